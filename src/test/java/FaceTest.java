import java.lang.reflect.Constructor;
import java.lang.reflect.Field;
import java.lang.reflect.Method;
import java.lang.reflect.Modifier;
import java.util.Set;
import java.util.TreeSet;

/** The class has the document's face, all of it and nothing beside it. */
public final class FaceTest {
    private static final String NSE = "java.util.NoSuchElementException";
    private static final String ISE = "java.lang.IllegalStateException";
    private static final String IAE = "java.lang.IllegalArgumentException";

    private static int wrong = 0;

    private static void due(String what, Object got, Object want) {
        if (!want.equals(got)) {
            wrong++;
            System.out.println(what + ": got " + got + ", due is " + want);
        }
    }

    private static Set<String> wantedMethods() {
        return new TreeSet<>(Set.of(
                "int addUser() " + ISE,
                "int deleteUser(int) " + NSE,
                "int addRole() " + ISE,
                "int deleteRole(int) " + NSE,
                "int assign(int,int) " + NSE + "," + ISE,
                "int deassign(int,int) " + NSE + "," + ISE,
                "int grant(int,int) " + NSE + "," + ISE,
                "int revoke(int,int) " + NSE + "," + ISE,
                "int inherit(int,int) " + NSE + "," + ISE,
                "int disinherit(int,int) " + NSE + "," + ISE,
                "int addSet(int,int,int) " + NSE + "," + IAE + "," + ISE,
                "int deleteSet(int) " + NSE,
                "int changeSet(int,int,int) " + NSE + "," + IAE + "," + ISE,
                "int open(int,int) " + NSE + "," + ISE,
                "int close(int) " + NSE,
                "int activate(int,int) " + NSE + "," + ISE,
                "int deactivate(int,int) " + NSE + "," + ISE,
                "boolean check(int,int) " + NSE,
                "int rolesOf(int,boolean) " + NSE,
                "int usersOf(int,boolean) " + NSE,
                "int permissions(int,boolean) " + NSE,
                "int juniors(int) " + NSE,
                "int active(int) " + NSE,
                "int sessionsOf(int) " + NSE,
                "int there(int) "));
    }

    private static String names(Class<?>[] types) {
        StringBuilder text = new StringBuilder();
        for (Class<?> type : types) {
            text.append(text.length() == 0 ? "" : ",").append(type.getName());
        }
        return text.toString();
    }

    private static String told(Method method) {
        return method.getReturnType().getName() + " " + method.getName() + "("
                + names(method.getParameterTypes()) + ") " + names(method.getExceptionTypes());
    }

    private static void methods() {
        Set<String> open = new TreeSet<>();
        Set<String> publicNames = new TreeSet<>();
        for (Method method : RoleDesk.class.getDeclaredMethods()) {
            if (!Modifier.isPrivate(method.getModifiers())) {
                open.add(told(method));
                publicNames.add(method.getName());
                due(method.getName() + " is public", Modifier.isPublic(method.getModifiers()), true);
                due(method.getName() + " is static", Modifier.isStatic(method.getModifiers()), false);
            }
        }
        due("the methods", open, wantedMethods());
        for (Method method : RoleDesk.class.getDeclaredMethods()) {
            if (Modifier.isPrivate(method.getModifiers())) {
                due("private " + method.getName() + " bears a public name",
                        publicNames.contains(method.getName()), false);
            }
        }
    }

    private static void fields() {
        for (Field field : RoleDesk.class.getDeclaredFields()) {
            due(field.getName() + " is private", Modifier.isPrivate(field.getModifiers()), true);
            if (Modifier.isStatic(field.getModifiers())) {
                due(field.getName() + " is final", Modifier.isFinal(field.getModifiers()), true);
            }
        }
    }

    public static void main(String[] args) {
        due("the class is public and final",
                RoleDesk.class.getModifiers(), Modifier.PUBLIC | Modifier.FINAL);
        Constructor<?>[] constructors = RoleDesk.class.getDeclaredConstructors();
        due("how many constructors", constructors.length, 1);
        due("the constructor's parameters", names(constructors[0].getParameterTypes()), "int,int,int");
        due("the constructor is public", Modifier.isPublic(constructors[0].getModifiers()), true);
        methods();
        fields();
        System.out.println(wrong == 0 ? "the face is as due" : wrong + " parts of the face are wrong");
        if (wrong != 0) {
            System.exit(1);
        }
    }
}
