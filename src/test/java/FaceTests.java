import java.lang.reflect.Constructor;
import java.lang.reflect.Field;
import java.lang.reflect.Method;
import java.lang.reflect.Modifier;
import java.util.Arrays;
import java.util.Set;
import java.util.TreeSet;

/** The public face is the document's, and no other member of the class can be seen from outside. */
public final class FaceTests {
    private static final String[] FACE = {
        "public static final int BAD", "public static final int NO", "public static final int FULL",
        "public static final int ERROR", "public ExpressionDesk()", "public int type(long,int)",
        "public int whole(long)", "public int decimal(long,int)", "public int truth(boolean)",
        "public int named(int,int)", "public int text(int,int)", "public int told(int,int)",
        "public long amount(int)", "public int byteOf(int,int)", "public int values()",
        "public int order(int,int)", "public int word(int,int)", "public int begin()",
        "public boolean bind(int,int)", "public int run()", "public int test()",
        "public int gather(int,boolean,int)", "public int add(int)", "public int together()",
    };

    public static void main(String[] args) {
        Set<String> seen = new TreeSet<>();
        Set<String> names = new TreeSet<>();
        int wrong = 0;
        for (Field field : ExpressionDesk.class.getDeclaredFields()) {
            if (!Modifier.isPrivate(field.getModifiers())) {
                seen.add(field.toString().replace("ExpressionDesk.", ""));
            }
        }
        for (Constructor<?> constructor : ExpressionDesk.class.getDeclaredConstructors()) {
            seen.add(constructor.toString());
        }
        for (Method method : ExpressionDesk.class.getDeclaredMethods()) {
            if (!Modifier.isPrivate(method.getModifiers())) {
                seen.add(method.toString().replace("ExpressionDesk.", ""));
                names.add(method.getName());
            }
        }
        Set<String> due = new TreeSet<>(Arrays.asList(FACE));
        if (!seen.equals(due)) {
            wrong++;
            System.out.println("the face is " + seen + ", due is " + due);
        }
        for (Method method : ExpressionDesk.class.getDeclaredMethods()) {
            if (Modifier.isPrivate(method.getModifiers()) && names.contains(method.getName())) {
                wrong++;
                System.out.println("a private method bears the name of a public one: " + method);
            }
        }
        if (!Modifier.isFinal(ExpressionDesk.class.getModifiers())) {
            wrong++;
            System.out.println("the class is not final");
        }
        for (Class<?> inside : ExpressionDesk.class.getDeclaredClasses()) {
            int modifiers = inside.getModifiers();
            if (Modifier.isPublic(modifiers) || Modifier.isProtected(modifiers) || !Modifier.isStatic(modifiers)) {
                wrong++;
                System.out.println("a class inside is not hidden and static: " + inside);
            }
        }
        System.out.println(wrong == 0 ? "the face is as due" : wrong + " faults in the face");
        if (wrong != 0) {
            System.exit(1);
        }
    }
}
