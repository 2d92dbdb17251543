import java.lang.reflect.Array;
import java.lang.reflect.Field;

/**
 * Promise 29 from its other side: no run of calls makes an object unsound, so these tests change
 * what it holds. They know the names of its private fields; whoever changes those changes these.
 */
final class SoundEdges {
    private static final String WHETHER = "Returns whether each device has one holder at most, "
            + "none of whom has more than 3, whoever waits for a device is in its queue alone, and "
            + "no visitor saw a slide more often than once and once more for each time that it "
            + "asked.";

    private SoundEdges() {
    }

    static void run() {
        try {
            holders();
            queues();
            visitors();
        } catch (ReflectiveOperationException e) {
            Check.sameText("a private field that the test changes", e.toString(), "is there");
        }
    }

    private static Field field(Object owner, String name) throws ReflectiveOperationException {
        Field field = owner.getClass().getDeclaredField(name);
        field.setAccessible(true);
        return field;
    }

    private static Object part(Object owner, String name) throws ReflectiveOperationException {
        return field(owner, name).get(owner);
    }

    private static Object part(Object owner, String name, int index)
            throws ReflectiveOperationException {
        return Array.get(part(owner, name), index);
    }

    private static void holders() throws ReflectiveOperationException {
        Edge.names(29, WHETHER);
        for (int player = 0; player < 6; player++) {
            KioskReel x = Edge.made(Rows::full);
            int from = player % 3;
            for (int i = 0; i < 4; i++) {
                Object device = part(x, "devices", from + i);
                field(device, "owner").setInt(device, player);
                Check.same(i + 1 + " devices of " + player, x.isSound(), i < 3);
            }
        }
    }

    private static void queues() throws ReflectiveOperationException {
        Edge.names(29, WHETHER);
        for (int device = 0; device < 6; device++) {
            int waited = device;
            for (int waiting = 0; waiting < 6; waiting++) {
                KioskReel x = Edge.made(y -> waitsFor(y, waited));
                int player = waiting;
                if (x.waits(player) == 100) {
                    queuesOf(x, player, device);
                }
            }
        }
    }

    /** Six players that want a device, of whom one has it: 0, or 5 for the devices from 3 on. */
    private static void waitsFor(KioskReel x, int device) {
        int list = Check.list(x, "d" + device + " w20");
        for (int i = 0; i < 6; i++) {
            x.kiosk();
        }
        x.start(device < 3 ? 0 : 5, list);
        x.tick(1);
        for (int i = 0; i < 6; i++) {
            if (i != (device < 3 ? 0 : 5)) {
                x.start(i, list);
            }
        }
        x.tick(1);
    }

    private static void queuesOf(KioskReel x, int player, int device)
            throws ReflectiveOperationException {
        Check.same("in the queue for which it waits", x.isSound(), true);
        Object its = part(part(x, "devices", device), "queue");
        for (int other = 0; other < 6; other++) {
            if (other != device) {
                Object row = part(part(x, "devices", other), "queue");
                Array.set(part(row, "members"), 0, player);
                field(row, "size").setInt(row, 1);
                Check.same("in another queue too: " + other, x.isSound(), false);
                field(row, "size").setInt(row, 0);
            }
        }
        Check.same("in its queue alone", x.isSound(), true);
        Object own = part(x, "players", player);
        field(own, "awaitedDevice").setInt(own, -1);
        Check.same("in a queue, though it does not wait", x.isSound(), false);
        field(own, "awaitedDevice").setInt(own, (device + 1) % 6);
        Check.same("it waits for another", x.isSound(), false);
        field(own, "awaitedDevice").setInt(own, device);
        Check.same("as it was", x.isSound(), true);
        int size = field(its, "size").getInt(its);
        Array.set(part(its, "members"), size, player);
        field(its, "size").setInt(its, size + 1);
        Check.same("twice in its queue", x.isSound(), false);
        field(its, "size").setInt(its, 0);
        Check.same("it waits in no queue", x.isSound(), false);
    }

    private static void visitors() throws ReflectiveOperationException {
        Edge.names(29, WHETHER);
        for (int visitor : new int[] {0, 4, 9}) {
            for (int slide : new int[] {0, 50, 99}) {
                KioskReel x = Check.row(1);
                for (int i = 0; i < 10; i++) {
                    x.visitor();
                }
                Object seen = part(part(x, "visitors", visitor), "timesSeen");
                for (int asked = 0; asked <= 3; asked++) {
                    Array.setInt(seen, slide, asked + 1);
                    Check.same("once more than asked: " + asked, x.isSound(), true);
                    Array.setInt(seen, slide, asked + 2);
                    Check.same("twice more than asked: " + asked, x.isSound(), false);
                    x.ask(visitor, slide);
                }
            }
        }
    }
}
