import java.lang.reflect.Constructor;
import java.lang.reflect.Field;
import java.lang.reflect.Member;
import java.lang.reflect.Method;
import java.lang.reflect.Modifier;
import java.util.ArrayList;
import java.util.Collections;
import java.util.List;

/** The public face, as the document prints it, and no other member that others may see. */
public final class FaceTest {
    private static final String IAE = " IllegalArgumentException";
    private static final String ISE = " IllegalStateException";
    private static final String IOOBE = " IndexOutOfBoundsException";
    private static final String[] METHODS = {
        "int type 1" + IAE + ISE, "int clearText 0", "int listFault 1" + IOOBE,
        "int variantFault 0", "int takeList 2" + IOOBE, "int addVariant 0" + ISE,
        "int removeVariant 1" + IOOBE, "int setQuality 2" + IOOBE + IAE,
        "int setSize 2" + IOOBE + IAE, "int setWeight 4" + IOOBE + IAE,
        "int removeEntry 3" + IOOBE, "int swapSides 0", "int setTies 3" + IAE,
        "int variant 2" + IOOBE + IAE, "int weight 3" + IOOBE, "int counting 3" + IOOBE,
        "int entry 4" + IOOBE + IAE, "int ranked 1" + IAE, "int whole 1" + IAE,
        "int listed 1" + IAE, "int listingByte 1" + IAE, "int servedFor 1" + IOOBE,
        "int servedWithout 1" + IOOBE, "int leastWeight 4" + IOOBE,
        "int leastQuality 1" + IOOBE, "boolean agree 0", "int undo 0" + ISE, "long digest 0",
    };

    private static boolean isSeen(Member member) {
        return !Modifier.isPrivate(member.getModifiers());
    }

    private static String tell(Method method) {
        StringBuilder told = new StringBuilder(method.getReturnType().getName());
        told.append(' ').append(method.getName()).append(' ').append(method.getParameterCount());
        for (Class<?> thrown : method.getExceptionTypes()) {
            told.append(' ').append(thrown.getSimpleName());
        }
        for (Class<?> parameter : method.getParameterTypes()) {
            if (parameter != int.class) {
                told.append(" takes ").append(parameter.getName());
            }
        }
        return told.toString();
    }

    public static void main(String[] args) {
        List<String> want = new ArrayList<>(List.of(METHODS));
        List<String> got = new ArrayList<>();
        for (Method method : RatherDesk.class.getDeclaredMethods()) {
            if (isSeen(method)) {
                got.add(tell(method));
                Check.due(method + " is public", true, Modifier.isPublic(method.getModifiers()));
                Check.due(method + " is static", false, Modifier.isStatic(method.getModifiers()));
            }
        }
        Collections.sort(want);
        Collections.sort(got);
        Check.same("the methods", want.toString(), got.toString());
        Check.due("methods", 28, got.size());
        for (Field field : RatherDesk.class.getDeclaredFields()) {
            if (isSeen(field)) {
                Check.same("a seen field", "public static final int RatherDesk.NONE",
                        field.toString());
            }
        }
        Constructor<?>[] made = RatherDesk.class.getDeclaredConstructors();
        Check.due("constructors", 1, made.length);
        Check.same("the constructor", "public RatherDesk()", made[0].toString());
        Check.due("public final", Modifier.PUBLIC | Modifier.FINAL,
                RatherDesk.class.getModifiers());
        Check.due("NONE", -1, RatherDesk.NONE);
        Check.end();
    }
}
