import java.lang.reflect.Constructor;
import java.lang.reflect.Field;
import java.lang.reflect.Method;
import java.lang.reflect.Modifier;
import java.util.ArrayList;
import java.util.List;

/** The public face of the document, and no other member that is not private. */
public final class FaceTest {
    private static final String[] FACE = {
        "list:int():IllegalStateException",
        "line:int(int,int,char,int):IndexOutOfBoundsException,IllegalArgumentException,"
            + "IllegalStateException",
        "cut:char(int,int):IndexOutOfBoundsException",
        "lines:int(int,char):IndexOutOfBoundsException,IllegalArgumentException",
        "kiosk:int():IllegalStateException",
        "start:int(int,int):IndexOutOfBoundsException,IllegalStateException",
        "stop:int(int):IndexOutOfBoundsException,NoSuchElementException",
        "freeze:boolean(int):IndexOutOfBoundsException",
        "thaw:int(int):IndexOutOfBoundsException",
        "state:char(int):IndexOutOfBoundsException",
        "plays:int(int):IndexOutOfBoundsException,NoSuchElementException",
        "playerAt:int(int,int):IndexOutOfBoundsException,NoSuchElementException",
        "next:int(int):IndexOutOfBoundsException,NoSuchElementException",
        "count:int(int):IndexOutOfBoundsException,NoSuchElementException",
        "waits:int(int):IndexOutOfBoundsException,NoSuchElementException",
        "tick:int(int):IllegalArgumentException",
        "slide:int(int):IndexOutOfBoundsException,NoSuchElementException",
        "holder:int(int):IndexOutOfBoundsException,NoSuchElementException",
        "queued:int(int,int):IndexOutOfBoundsException,NoSuchElementException",
        "visitor:int():IllegalStateException",
        "go:int(int,int):IndexOutOfBoundsException",
        "ask:boolean(int,int):IndexOutOfBoundsException,IllegalArgumentException",
        "saw:int(int,int):IndexOutOfBoundsException,IllegalArgumentException",
        "done:long():",
        "heldShare:float():",
        "heldBits:int():",
        "meanSeen:double():ArithmeticException",
        "isSound:boolean():",
    };

    public static void main(String[] args) {
        Check.same("class is public and final", KioskReel.class.getModifiers(),
                Modifier.PUBLIC | Modifier.FINAL);
        methodsAreThoseOfTheFace();
        noOtherMemberIsSeen();
        Check.end();
    }

    private static void methodsAreThoseOfTheFace() {
        List<String> due = new ArrayList<>(List.of(FACE));
        List<String> names = new ArrayList<>();
        for (String method : FACE) {
            names.add(method.substring(0, method.indexOf(':')));
        }
        for (Method method : KioskReel.class.getDeclaredMethods()) {
            if (Modifier.isPrivate(method.getModifiers()) || method.isSynthetic()) {
                Check.same("a private method has its own name: " + method.getName(),
                        names.contains(method.getName()), false);
            } else {
                Check.same("public: " + method, method.getModifiers(), Modifier.PUBLIC);
                Check.same("in the face: " + described(method), due.remove(described(method)), true);
            }
        }
        Check.sameText("methods that are missing", due.toString(), "[]");
    }

    private static void noOtherMemberIsSeen() {
        for (Field field : KioskReel.class.getDeclaredFields()) {
            int modifiers = field.getModifiers();
            Check.same("private: " + field, Modifier.isPrivate(modifiers), true);
            Check.same("final, if static: " + field,
                    !Modifier.isStatic(modifiers) || Modifier.isFinal(modifiers), true);
        }
        Constructor<?>[] constructors = KioskReel.class.getDeclaredConstructors();
        Check.same("constructors", constructors.length, 1);
        Check.same("its parameters", constructors[0].getParameterCount(), 0);
        Check.same("it is public", constructors[0].getModifiers(), Modifier.PUBLIC);
        for (Class<?> inside : KioskReel.class.getDeclaredClasses()) {
            int modifiers = inside.getModifiers();
            Check.same("static: " + inside, Modifier.isStatic(modifiers), true);
            Check.same("not seen: " + inside,
                    Modifier.isPublic(modifiers) || Modifier.isProtected(modifiers), false);
        }
    }

    private static String described(Method method) {
        return method.getName() + ":" + method.getReturnType() + "("
                + joined(method.getParameterTypes()) + "):" + joined(method.getExceptionTypes());
    }

    private static String joined(Class<?>[] types) {
        StringBuilder text = new StringBuilder();
        for (Class<?> type : types) {
            text.append(text.length() == 0 ? "" : ",").append(type.getSimpleName());
        }
        return text.toString();
    }
}
