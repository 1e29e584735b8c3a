import java.lang.reflect.Constructor;
import java.lang.reflect.Field;
import java.lang.reflect.Method;
import java.lang.reflect.Modifier;
import java.util.ArrayList;
import java.util.Collections;
import java.util.List;

/** The face of the class: all that the document names, and nothing besides (rule 1 of LANGUAGE.md). */
public final class FaceTest {
    private static final Check CHECK = new Check("FaceTest");
    private static final String I = "IndexOutOfBoundsException";
    private static final String A = "IllegalArgumentException";
    private static final String S = "IllegalStateException";

    private static final String[] FACE = {
        "int setZone(int int) " + I + " " + A + " " + S,
        "int setTax(int int) " + I + " " + A,
        "int flight(int int int int int int) " + I + " " + A + " " + S,
        "int days(int int int int) " + I + " " + A + " " + S,
        "int limit(int int int) " + I + " " + A,
        "int link(int int boolean) " + I + " " + A,
        "int fare(int int int int int) " + I + " " + A + " " + S,
        "void rules(int int int int boolean int boolean) " + I + " " + A,
        "int back(int int) " + I + " " + A,
        "int departure(int) " + I,
        "int standing(int) " + I,
        "int open(int int) " + I,
        "float load(int) " + I,
        "int cancelLeg(int) " + I + " " + S,
        "int delay(int int) " + I + " " + A + " " + S,
        "int repair()",
        "int leg(int) " + I + " " + S,
        "int dropLegs()",
        "int price(int) " + A,
        "int priceAnew(int) " + A,
        "int stretch(int int) " + I + " " + A,
        "int taxes()",
        "int hold(int int int) " + I + " " + A + " " + S,
        "int wish(int int) " + I + " " + A + " " + S,
        "int clear()",
        "int wished(int) " + I,
        "int ticket(int) " + I + " " + S,
        "int part(int int) " + I + " " + A + " " + S,
        "int cancel(int) " + I + " " + S,
        "int booking(int) " + I,
        "int coupon(int int) " + I,
        "int share(int int) " + I,
        "int check(int int) " + I + " " + S,
        "boolean volunteer(int) " + I,
        "int pass(int) " + A,
        "int denied()",
        "int points(int) " + I,
        "int owed(int int) " + I,
    };

    private static String told(Method method) {
        StringBuilder text = new StringBuilder(method.getReturnType() + " " + method.getName() + "(");
        String gap = "";
        for (Class<?> type : method.getParameterTypes()) {
            text.append(gap).append(type);
            gap = " ";
        }
        text.append(")");
        for (Class<?> type : method.getExceptionTypes()) {
            text.append(" ").append(type.getSimpleName());
        }
        return text.toString();
    }

    private static List<Class<?>> classesInside() {
        return List.of(FareLattice.class.getDeclaredClasses());
    }

    private static void face() {
        List<String> want = new ArrayList<>(List.of(FACE));
        List<String> got = new ArrayList<>();
        for (Method method : FareLattice.class.getDeclaredMethods()) {
            if (Modifier.isPublic(method.getModifiers())) {
                got.add(told(method));
            } else {
                CHECK.isTrue("private: " + method, Modifier.isPrivate(method.getModifiers()));
            }
        }
        Collections.sort(want);
        Collections.sort(got);
        CHECK.same("the public methods", want, got);
        CHECK.isTrue("final", Modifier.isFinal(FareLattice.class.getModifiers()));
        Constructor<?>[] constructors = FareLattice.class.getDeclaredConstructors();
        CHECK.same("one constructor", 1, constructors.length);
        CHECK.isTrue("a public one", Modifier.isPublic(constructors[0].getModifiers()));
        CHECK.same("without parameters", 0, constructors[0].getParameterCount());
    }

    private static void fields() {
        for (Field field : FareLattice.class.getDeclaredFields()) {
            int is = field.getModifiers();
            CHECK.same("public: " + field, (Object) field.getName().equals("NONE"), (Object) Modifier.isPublic(is));
            CHECK.isTrue("private or public: " + field, Modifier.isPrivate(is) || Modifier.isPublic(is));
            CHECK.isTrue("static state is final: " + field, !Modifier.isStatic(is) || Modifier.isFinal(is));
        }
    }

    private static void namesAndParameters() {
        List<String> names = new ArrayList<>();
        for (String line : FACE) {
            names.add(line.substring(line.indexOf(' ') + 1, line.indexOf('(')));
        }
        List<Class<?>> all = new ArrayList<>(classesInside());
        CHECK.isTrue("some twelve classes at most", all.size() < 12);
        for (Class<?> inside : classesInside()) {
            CHECK.isTrue("neither public nor protected: " + inside,
                !Modifier.isPublic(inside.getModifiers()) && !Modifier.isProtected(inside.getModifiers()));
            CHECK.isTrue("static: " + inside, Modifier.isStatic(inside.getModifiers()));
        }
        all.add(FareLattice.class);
        for (Class<?> one : all) {
            for (Method method : one.getDeclaredMethods()) {
                CHECK.isTrue("at most seven parameters: " + method, method.getParameterCount() <= 7);
                CHECK.isTrue("no name of the face: " + method,
                    Modifier.isPublic(method.getModifiers()) || !names.contains(method.getName()));
            }
            int fields = 0;
            for (Field field : one.getDeclaredFields()) {
                fields += Modifier.isStatic(field.getModifiers()) ? 0 : 1;
            }
            CHECK.isTrue("some twenty fields at most: " + one, fields <= 20);
        }
    }

    public static void main(String[] args) {
        face();
        fields();
        namesAndParameters();
        CHECK.close();
    }
}
