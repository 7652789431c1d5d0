import java.lang.reflect.Constructor;
import java.lang.reflect.Field;
import java.lang.reflect.Method;
import java.lang.reflect.Modifier;
import java.util.Set;
import java.util.TreeSet;

/** The class's face: what the document names is public, all else is private. */
public final class FaceTest {
    private static final Check CHECK = new Check("FaceTest");
    private static final int PARAMETERS_MOST = 7;
    private static final int FIELDS_MOST = 20;
    private static final String[] METHODS = {"int write(int)", "int wipe()", "int fault()", "int lay()",
        "int wheel(int,int)", "int talks(int)", "int heard(int,int)", "int sense(int)", "int stale(int,int)",
        "int crank()", "int give(int,int)", "int day()", "int file(int,int)", "int gear(int,int)", "int undo()",
        "int up(int,int)", "int round()", "int sensible(int)", "int longest(int)", "int teeth(int,int)",
        "int together(int)", "int owner(int)", "long caught(int,int,int)", "int shown(int,int,int)",
        "int forget()", "int gears(int)", "int ask(int,int)", "int sell(int)", "int year(int,int,int)",
        "int keep()", "int back()", "int count(int)"};

    public static void main(String[] args) {
        Class<?> face = CrankedExcuse.class;
        CHECK.due("public and final", Modifier.isPublic(face.getModifiers()) && Modifier.isFinal(face.getModifiers()));
        Set<String> due = new TreeSet<>(Set.of(METHODS));
        Set<String> got = new TreeSet<>();
        Set<String> publicNames = new TreeSet<>();
        for (Method m : face.getDeclaredMethods()) {
            if (Modifier.isPrivate(m.getModifiers())) {
                continue;
            }
            StringBuilder name = new StringBuilder(m.getReturnType() + " " + m.getName() + "(");
            for (Class<?> type : m.getParameterTypes()) {
                name.append(name.charAt(name.length() - 1) == '(' ? "" : ",").append(type);
            }
            got.add(name.append(')').toString());
            publicNames.add(m.getName());
            CHECK.due(name + " is public", Modifier.isPublic(m.getModifiers()) && !Modifier.isStatic(m.getModifiers()));
        }
        CHECK.due("methods " + got, got.equals(due));
        for (Method m : face.getDeclaredMethods()) {
            CHECK.due(m + " bears a public one's name",
                    Modifier.isPublic(m.getModifiers()) || !publicNames.contains(m.getName()));
        }
        fields(face);
        bounds(face);
        for (Class<?> inside : face.getDeclaredClasses()) {
            inside(inside, publicNames);
            bounds(inside);
        }
        Constructor<?>[] constructors = face.getDeclaredConstructors();
        CHECK.due("one constructor", constructors.length, 1);
        CHECK.due("public, without arguments",
                Modifier.isPublic(constructors[0].getModifiers()) && constructors[0].getParameterCount() == 0);
        CHECK.end();
    }

    private static void fields(Class<?> face) {
        Set<String> constants = new TreeSet<>();
        for (Field f : face.getDeclaredFields()) {
            int how = f.getModifiers();
            CHECK.due(f + " is final if static", Modifier.isFinal(how) || !Modifier.isStatic(how));
            if (!Modifier.isPrivate(how)) {
                constants.add(f.getName());
                CHECK.due(f + " is a constant", Modifier.isPublic(how) && Modifier.isStatic(how)
                        && f.getType() == int.class);
            }
        }
        CHECK.due("constants " + constants, constants.equals(Set.of("BAD", "NO", "FULL", "NONE")));
    }

    /** Rules 1, 2 and 5: a class inside is private and static, and hides no call of the face. */
    private static void inside(Class<?> inside, Set<String> publicNames) {
        int how = inside.getModifiers();
        CHECK.due(inside + " is private and static", Modifier.isPrivate(how) && Modifier.isStatic(how));
        for (Method m : inside.getDeclaredMethods()) {
            CHECK.due(m + " bears a public one's name", !publicNames.contains(m.getName()));
            CHECK.due(m + " is inside alone", !Modifier.isPublic(m.getModifiers()));
        }
        for (Field f : inside.getDeclaredFields()) {
            CHECK.due(f + " is no static state", Modifier.isFinal(f.getModifiers())
                    || !Modifier.isStatic(f.getModifiers()));
        }
    }

    /** Rule 11 */
    private static void bounds(Class<?> type) {
        int fields = 0;
        for (Field f : type.getDeclaredFields()) {
            fields += Modifier.isStatic(f.getModifiers()) ? 0 : 1;
        }
        CHECK.due(type + " has few fields: " + fields, fields <= FIELDS_MOST);
        for (Method m : type.getDeclaredMethods()) {
            CHECK.due(m + " takes few parameters", m.getParameterCount() <= PARAMETERS_MOST);
        }
    }
}
