import java.lang.reflect.InvocationTargetException;
import java.lang.reflect.Method;
import java.util.ArrayList;
import java.util.Arrays;
import java.util.Comparator;
import java.util.List;
import java.util.Set;
import java.util.function.Supplier;
import java.util.stream.IntStream;

/**
 * For each sentence of the document that names a boundary case a test of its own, named after its
 * promise, its term or "What it is". Every call is made on a desk of its own, which is made anew
 * from the calls that tell it, so that a refused call can be held against the same desk without it.
 */
public final class BoundaryTest {
    private static final int MIN = Integer.MIN_VALUE;
    private static final int MAX = Integer.MAX_VALUE;

    private static final int LAST_USER = 5;
    private static final int LAST_ROLE = 9;
    private static final int LAST_SESSION = 5;
    private static final int LAST_SET = 3;
    private static final int LAST_PERMISSION = 15;
    private static final int ALL_USERS = 63;
    private static final int ALL_ROLES = 1023;
    private static final int ALL_SESSIONS = 63;
    private static final int ALL_SETS = 15;
    private static final int ALL_PERMISSIONS = 65535;

    private static final String NO_SUCH_ELEMENT = "throws.NoSuchElementException";
    private static final String ILLEGAL_ARGUMENT = "throws.IllegalArgumentException";
    private static final String ILLEGAL_STATE = "throws.IllegalStateException";

    /** The calls that tell something and change nothing. */
    private static final Set<String> QUESTIONS = Set.of("check", "rolesOf", "usersOf",
            "permissions", "juniors", "active", "sessionsOf", "there");

    private static String test = "";
    private static int checks = 0;
    private static int wrong = 0;

    // ------------------------------------------------------------------ calls, told as texts

    private static final class Call {
        private final String told;
        private final String name;
        private final int[] numbers = new int[3];

        Call(String told) {
            this.told = told;
            String[] parts = told.split("[(), ]+");
            name = parts[0];
            for (int i = 1; i < parts.length; i++) {
                numbers[i - 1] = number(parts[i]);
            }
        }

        private static int number(String part) {
            return part.equals("true") ? 1 : part.equals("false") ? 0 : Integer.parseInt(part);
        }

        String answer(RoleDesk x) {
            try {
                return String.valueOf(on(x));
            } catch (RuntimeException e) {
                return "throws." + e.getClass().getSimpleName();
            }
        }

        int on(RoleDesk x) {
            int a = numbers[0];
            int b = numbers[1];
            int c = numbers[2];
            switch (name) {
                case "addUser": return x.addUser();
                case "deleteUser": return x.deleteUser(a);
                case "addRole": return x.addRole();
                case "deleteRole": return x.deleteRole(a);
                case "assign": return x.assign(a, b);
                case "deassign": return x.deassign(a, b);
                case "grant": return x.grant(a, b);
                case "revoke": return x.revoke(a, b);
                case "inherit": return x.inherit(a, b);
                case "disinherit": return x.disinherit(a, b);
                case "addSet": return x.addSet(a, b, c);
                case "deleteSet": return x.deleteSet(a);
                case "changeSet": return x.changeSet(a, b, c);
                case "open": return x.open(a, b);
                case "close": return x.close(a);
                case "activate": return x.activate(a, b);
                case "deactivate": return x.deactivate(a, b);
                case "check": return x.check(a, b) ? 1 : 0;
                case "rolesOf": return x.rolesOf(a, b == 1);
                case "usersOf": return x.usersOf(a, b == 1);
                case "permissions": return x.permissions(a, b == 1);
                case "juniors": return x.juniors(a);
                case "active": return x.active(a);
                case "sessionsOf": return x.sessionsOf(a);
                case "there": return x.there(a);
                default: throw new AssertionError("no such call: " + told);
            }
        }
    }

    /** The pattern once for each number, with the number in the place of every #. */
    private static String[] each(String pattern, int... numbers) {
        return IntStream.of(numbers).mapToObj(i -> pattern.replace("#", String.valueOf(i)))
                .toArray(String[]::new);
    }

    private static String[] times(int count, String call) {
        return each(call, range(1, count));
    }

    private static int[] range(int least, int greatest) {
        return IntStream.rangeClosed(least, greatest).toArray();
    }

    /** 32 and its like would slip through a shift that wraps, 256 and its like through a cast. */
    private static int[] outside(int greatest) {
        return new int[] {-1, greatest + 1, -2, greatest + 2, 31, 32, 33, 32 + greatest, 64, -31,
            -32, 256, 65536, MIN, MIN + 1, MAX - 1, MAX};
    }

    private static int[] numbersIn(int set) {
        return IntStream.range(0, 32).filter(i -> (set >>> i & 1) != 0).toArray();
    }

    // ------------------------------------------------------------------ desks, told as calls

    private static final class Desk {
        private final int users;
        private final int roles;
        private final int mode;
        private final List<Call> calls = new ArrayList<>();
        private String telling = null;

        Desk(int users, int roles, int mode, String... calls) {
            this.users = users;
            this.roles = roles;
            this.mode = mode;
            add(calls);
        }

        private void add(String... more) {
            for (String call : more) {
                calls.add(new Call(call));
            }
        }

        Desk then(String... more) {
            Desk next = new Desk(users, roles, mode);
            next.calls.addAll(calls);
            next.add(more);
            return next;
        }

        private RoleDesk made() {
            RoleDesk x = new RoleDesk(users, roles, mode);
            for (Call call : calls) {
                call.on(x);
            }
            return x;
        }

        private RoleDesk madeAndTried(Call call) {
            RoleDesk x = made();
            call.answer(x);
            return x;
        }

        private String telling() {
            if (telling == null) {
                telling = tell(this::made);
            }
            return telling;
        }

        void answers(String call, int due) {
            due(new Call(call), String.valueOf(due));
        }

        void answers(String call, boolean due) {
            answers(call, due ? 1 : 0);
        }

        void noSuchElement(String... told) {
            allDue(NO_SUCH_ELEMENT, told);
        }

        void illegalArgument(String... told) {
            allDue(ILLEGAL_ARGUMENT, told);
        }

        void illegalState(String... told) {
            allDue(ILLEGAL_STATE, told);
        }

        private void allDue(String due, String... told) {
            for (String call : told) {
                due(new Call(call), due);
            }
        }

        private void due(Call call, String due) {
            compare(call.told, call.answer(made()), due);
            if (due.startsWith("throws.") || QUESTIONS.contains(call.name)) {
                leavesAll(call);
            }
        }

        void leavesAll(Call call) {
            compare("all that is told after " + call.told, tell(() -> madeAndTried(call)),
                    telling());
        }

        void isAsAfter(Desk other) {
            compare("all that is told", telling(), other.telling());
        }

        void hasSet(int k, String due) {
            compare("set " + k, tellSet(made(), k), due);
        }

        private void compare(String what, String got, String due) {
            checks++;
            if (!got.equals(due)) {
                fail(this + ": " + what + " is " + got + ", due is " + due);
            }
        }

        @Override
        public String toString() {
            StringBuilder text = new StringBuilder("new(");
            text.append(users).append(", ").append(roles).append(", ").append(mode).append(')');
            calls.forEach(call -> text.append(' ').append(call.told));
            return text.toString();
        }
    }

    private static void fail(String text) {
        wrong++;
        System.out.println(test + ": " + text);
    }

    private static Desk desk(int users, int roles, String... calls) {
        return new Desk(users, roles, 0, calls);
    }

    private static Desk limitedDesk(int users, int roles, String... calls) {
        return new Desk(users, roles, 1, calls);
    }

    // ------------------------------------------------------------------ all that a desk tells

    /** The supplier makes the same desk again: what a set holds is found by using a desk up. */
    private static String tell(Supplier<RoleDesk> maker) {
        StringBuilder text = new StringBuilder();
        RoleDesk x = maker.get();
        for (int what = 0; what <= 4; what++) {
            text.append(x.there(what)).append(' ');
        }
        tellUsersAndSessions(x, text);
        tellRoles(x, text);
        tellInheriting(x, text);
        for (int k : numbersIn(x.there(3) | x.there(4))) {
            text.append(" set").append(k).append(':').append(tellSet(maker.get(), k));
        }
        return text.toString();
    }

    private static void tellUsersAndSessions(RoleDesk x, StringBuilder text) {
        for (int u : numbersIn(x.there(0))) {
            text.append(" user").append(u).append(':').append(x.rolesOf(u, false)).append(',')
                    .append(x.rolesOf(u, true)).append(',').append(x.sessionsOf(u));
        }
        for (int s : numbersIn(x.there(2))) {
            text.append(" session").append(s).append(':').append(x.active(s));
        }
    }

    private static void tellRoles(RoleDesk x, StringBuilder text) {
        for (int r : numbersIn(x.there(1))) {
            text.append(" role").append(r).append(':').append(x.usersOf(r, false)).append(',')
                    .append(x.usersOf(r, true)).append(',').append(x.permissions(r, false))
                    .append(',').append(x.permissions(r, true)).append(',').append(x.juniors(r));
        }
    }

    /** Which roles a role inherits by itself is told by disinherit alone. */
    private static void tellInheriting(RoleDesk x, StringBuilder text) {
        for (int r : numbersIn(x.there(1))) {
            for (int q : numbersIn(x.juniors(r))) {
                if (!new Call("disinherit(" + r + ", " + q + ")").answer(x).startsWith("throws.")) {
                    text.append(' ').append(r).append('>').append(q);
                }
            }
        }
    }

    /** As kind:roles:n, found by what the set refuses on a desk that is cleared of all the rest. */
    private static String tellSet(RoleDesk x, int k) {
        boolean isStatic = (x.there(3) >> k & 1) != 0;
        clearAllBut(x, k);
        if (!isStatic) {
            for (int r : numbersIn(x.there(1))) {
                x.assign(0, r);
            }
            x.open(0, 0);
        }
        String put = isStatic ? "assign(0, #)" : "activate(0, #)";
        String take = isStatic ? "deassign(0, #)" : "deactivate(0, #)";
        int taken = 0;
        for (int r : numbersIn(x.there(1))) {
            taken |= may(x, put, r) ? 1 << r : 0;
        }
        int refused = x.there(1) & ~taken;
        if (refused == 0) {
            return "keeps nothing apart";
        }
        int makingRoom = whatMakesRoom(x, put, take, taken, refused);
        int n = 1 + Integer.bitCount(makingRoom);
        return (isStatic ? 0 : 1) + ":" + (refused | makingRoom) + ":" + n;
    }

    private static int whatMakesRoom(RoleDesk x, String put, String take, int taken, int refused) {
        int first = numbersIn(refused)[0];
        int found = 0;
        for (int r : numbersIn(taken)) {
            may(x, take, r);
            if (may(x, put, first)) {
                found |= 1 << r;
                may(x, take, first);
            }
            may(x, put, r);
        }
        return found;
    }

    private static boolean may(RoleDesk x, String pattern, int number) {
        return !new Call(each(pattern, number)[0]).answer(x).startsWith("throws.");
    }

    private static void clearAllBut(RoleDesk x, int k) {
        for (int other : numbersIn((x.there(3) | x.there(4)) & ~(1 << k))) {
            x.deleteSet(other);
        }
        for (int u : numbersIn(x.there(0))) {
            x.deleteUser(u);
        }
        tellInheriting(x, new StringBuilder());
        x.addUser();
    }

    // ------------------------------------------------------------------ desks that many tests use

    /** Full of each kind, and the last of each kind is in use. */
    private static Desk fullDesk() {
        return desk(6, 10, "inherit(9, 8)", "inherit(8, 7)", "grant(7, 15)", "assign(0, 0)",
                "assign(5, 9)").then(times(5, "open(0, 0)")).then("open(5, 512)",
                "addSet(0, 3, 2)", "addSet(1, 12, 2)", "addSet(0, 513, 2)", "addSet(1, 768, 2)");
    }

    /** Of each kind the first and the last are gone, of most of them one between these too. */
    private static Desk sparseDesk() {
        return desk(6, 10, "assign(1, 1)").then(times(6, "open(1, 2)"))
                .then(times(4, "addSet(0, 6, 2)"))
                .then(each("deleteUser(#)", 0, 2, 5)).then(each("deleteRole(#)", 0, 4, 9))
                .then(each("close(#)", 0, 3, 5)).then(each("deleteSet(#)", 0, 3));
    }

    /** User 0 is assigned every role, the others none. */
    private static Desk userOfAllRoles(int users) {
        return desk(users, 10, each("assign(0, #)", range(0, LAST_ROLE)));
    }

    /** Role 0 inherits every other one. */
    private static Desk roleOfAllRoles() {
        return desk(1, 10, each("inherit(0, #)", range(1, LAST_ROLE)));
    }

    private static void userMustBeThere(String pattern) {
        fullDesk().noSuchElement(each(pattern, outside(LAST_USER)));
        sparseDesk().noSuchElement(each(pattern, 0, 2, 5));
        desk(0, 10).noSuchElement(each(pattern, range(0, LAST_USER)));
    }

    private static void roleMustBeThere(String pattern) {
        fullDesk().noSuchElement(each(pattern, outside(LAST_ROLE)));
        sparseDesk().noSuchElement(each(pattern, 0, 4, 9));
        desk(6, 0, "open(0, 0)", "open(1, 0)").noSuchElement(each(pattern, range(0, LAST_ROLE)));
    }

    private static void sessionMustBeThere(String pattern) {
        fullDesk().noSuchElement(each(pattern, outside(LAST_SESSION)));
        sparseDesk().noSuchElement(each(pattern, 0, 3, 5));
        desk(6, 10).noSuchElement(each(pattern, range(0, LAST_SESSION)));
    }

    private static void setMustBeThere(String pattern) {
        fullDesk().noSuchElement(each(pattern, outside(LAST_SET)));
        sparseDesk().noSuchElement(each(pattern, 0, 3));
        desk(6, 10).noSuchElement(each(pattern, range(0, LAST_SET)));
    }

    private static void permissionMustBeThere(String pattern) {
        fullDesk().noSuchElement(each(pattern, outside(LAST_PERMISSION)));
    }

    private static void everyBitMustBeARole(String pattern) {
        fullDesk().noSuchElement(each(pattern, 1024, 1024 + 6, 2048 + 6, 65536 + 6, 1 << 30, MIN,
                MIN + 6, -1, -2, ~ALL_ROLES, MAX));
        sparseDesk().noSuchElement(each(pattern, 1, 1 + 6, 16 + 6, 512 + 6, ALL_ROLES));
        desk(6, 0, "open(1, 0)").noSuchElement(each(pattern, 1, 3, 512, ALL_ROLES));
    }

    // ------------------------------------------------------------------ What it is

    private static void whatItIsThe512thCallIsAnsweredAsTheFirst() {
        String[] round = {"addUser()", "addRole()", "assign(5, 9)", "open(5, 512)",
            "addSet(1, 768, 2)", "inherit(9, 8)", "deleteRole(9)", "deleteUser(5)"};
        int[] due = {5, 9, 1, 0, 0, 1, 1, 1};
        Desk desk = desk(5, 9);
        for (int i = 0; i < 63; i++) {
            desk = desk.then(round);
        }
        for (int i = 0; i < round.length; i++) {
            RoleDesk x = desk.then(Arrays.copyOf(round, i)).made();
            desk.compare("call " + (505 + i), new Call(round[i]).answer(x), String.valueOf(due[i]));
        }
    }

    private static void whatItIsCallsThatThrowAreAmongThe512() {
        Desk full = fullDesk();
        RoleDesk x = full.made();
        for (int i = full.calls.size() + 1; i < 512; i++) {
            full.compare("call " + i, new Call("addUser()").answer(x), ILLEGAL_STATE);
        }
        full.compare("call 512", new Call("deleteUser(5)").answer(x), "1");
    }

    // ------------------------------------------------------------------ Terms: numbers

    private static void termUsersHaveNumbers0To5() {
        fullDesk().answers("there(0)", ALL_USERS);
        fullDesk().answers("rolesOf(0, false)", 1);
        fullDesk().answers("rolesOf(5, false)", 512);
        fullDesk().answers("deleteUser(0)", 5);
        fullDesk().answers("deleteUser(5)", 1);
        fullDesk().noSuchElement("rolesOf(-1, false)", "rolesOf(6, false)");
    }

    private static void termRolesHaveNumbers0To9() {
        fullDesk().answers("there(1)", ALL_ROLES);
        fullDesk().answers("juniors(0)", 1);
        fullDesk().answers("juniors(9)", 512 + 256 + 128);
        fullDesk().answers("deleteRole(0)", 2);
        fullDesk().answers("deleteRole(9)", 2);
        fullDesk().noSuchElement("juniors(-1)", "juniors(10)");
    }

    private static void termSessionsHaveNumbers0To5() {
        fullDesk().answers("there(2)", ALL_SESSIONS);
        fullDesk().answers("active(0)", 0);
        fullDesk().answers("active(5)", 512);
        fullDesk().answers("close(0)", 5);
        fullDesk().answers("close(5)", 5);
        fullDesk().noSuchElement("active(-1)", "active(6)");
    }

    private static void termSetsHaveNumbers0To3() {
        fullDesk().answers("there(3)", 5);
        fullDesk().answers("there(4)", 10);
        fullDesk().answers("deleteSet(0)", 3);
        fullDesk().answers("deleteSet(3)", 3);
        fullDesk().noSuchElement("deleteSet(-1)", "deleteSet(4)");
    }

    private static void termPermissionsAre0To15() {
        desk(1, 1).answers("grant(0, 0)", 1);
        desk(1, 1).answers("grant(0, 15)", 1);
        desk(1, 1).noSuchElement("grant(0, -1)", "grant(0, 16)");
    }

    private static void termPermissionsAreAllThereAlways() {
        Desk bare = desk(1, 1, "open(0, 0)");
        for (String call : each("check(0, #)", range(0, LAST_PERMISSION))) {
            bare.answers(call, false);
        }
        Desk granted = desk(1, 2).then(each("grant(0, #)", range(0, LAST_PERMISSION)));
        granted.then("deleteRole(0)").answers("grant(1, 15)", 1);
        granted.then("deleteRole(0)").illegalState("revoke(1, 15)");
        granted.then("revoke(0, 15)").illegalState("revoke(0, 15)");
    }

    private static void termOfEachOnlySomeAreThere() {
        sparseDesk().answers("there(0)", 2 + 8 + 16);
        sparseDesk().answers("there(1)", ALL_ROLES - 1 - 16 - 512);
        sparseDesk().answers("there(2)", 2 + 4 + 16);
        sparseDesk().answers("there(3)", 2 + 4);
        sparseDesk().noSuchElement("rolesOf(0, true)", "juniors(4)", "active(5)", "deleteSet(3)");
    }

    private static void termANewUserGetsTheLeastNumberThatIsFree() {
        sparseDesk().answers("addUser()", 0);
        sparseDesk().then("addUser()").answers("addUser()", 2);
        sparseDesk().then(times(2, "addUser()")).answers("addUser()", 5);
        desk(6, 0, "deleteUser(3)", "deleteUser(1)").answers("addUser()", 1);
        desk(6, 0, "deleteUser(1)", "deleteUser(3)").answers("addUser()", 1);
    }

    private static void termANewRoleGetsTheLeastNumberThatIsFree() {
        sparseDesk().answers("addRole()", 0);
        sparseDesk().then("addRole()").answers("addRole()", 4);
        sparseDesk().then(times(2, "addRole()")).answers("addRole()", 9);
        desk(0, 10, "deleteRole(7)", "deleteRole(2)").answers("addRole()", 2);
        desk(0, 10, "deleteRole(2)", "deleteRole(7)").answers("addRole()", 2);
    }

    private static void termANewSessionGetsTheLeastNumberThatIsFree() {
        sparseDesk().answers("open(3, 0)", 0);
        sparseDesk().then("open(3, 0)").answers("open(3, 0)", 3);
        sparseDesk().then(times(2, "open(3, 0)")).answers("open(3, 0)", 5);
        Desk full = desk(1, 0).then(times(6, "open(0, 0)"));
        full.then("close(4)", "close(1)").answers("open(0, 0)", 1);
        full.then("close(1)", "close(4)").answers("open(0, 0)", 1);
    }

    /** Both kinds share their numbers. */
    private static void termANewSetGetsTheLeastNumberThatIsFree() {
        sparseDesk().answers("addSet(1, 12, 2)", 0);
        sparseDesk().then("addSet(1, 12, 2)").answers("addSet(0, 12, 2)", 3);
        Desk full = desk(0, 2).then(times(2, "addSet(0, 3, 2)")).then(times(2, "addSet(1, 3, 2)"));
        full.then("deleteSet(2)", "deleteSet(1)").answers("addSet(1, 3, 2)", 1);
        full.then("deleteSet(1)", "deleteSet(2)").answers("addSet(1, 3, 2)", 1);
    }

    private static void termNoneOfAKindIsToldAs0() {
        Desk bare = desk(1, 1, "open(0, 0)");
        bare.answers("rolesOf(0, true)", 0);
        bare.answers("usersOf(0, true)", 0);
        bare.answers("permissions(0, true)", 0);
        bare.answers("active(0)", 0);
        bare.answers("there(3)", 0);
        desk(1, 1).answers("sessionsOf(0)", 0);
        desk(0, 0).answers("there(0)", 0);
        desk(0, 0).answers("there(1)", 0);
        desk(0, 0).answers("there(2)", 0);
    }

    private static void termEachNumberIsToldAsAPowerOf2() {
        for (int r = 0; r <= LAST_ROLE; r++) {
            Desk one = desk(1, 10, each("assign(0, #)", r)).then("open(0, " + (1 << r) + ")");
            one.answers("rolesOf(0, false)", 1 << r);
            one.answers("active(0)", 1 << r);
            one.answers("juniors(" + r + ")", 1 << r);
        }
        for (int u = 0; u <= LAST_USER; u++) {
            desk(6, 1, each("assign(#, 0)", u)).answers("usersOf(0, false)", 1 << u);
            desk(6, 1, each("assign(#, 0)", u)).answers("usersOf(0, true)", 1 << u);
        }
        for (int p = 0; p <= LAST_PERMISSION; p++) {
            desk(0, 1, each("grant(0, #)", p)).answers("permissions(0, true)", 1 << p);
        }
        for (int s = 0; s <= LAST_SESSION; s++) {
            Desk one = desk(2, 0).then(times(s, "open(0, 0)")).then("open(1, 0)");
            one.answers("sessionsOf(1)", 1 << s);
        }
    }

    // ------------------------------------------------------------------ Terms: inheriting

    private static void termARoleIsSeniorToItself() {
        desk(0, 10).answers("juniors(0)", 1);
        desk(0, 10).answers("juniors(9)", 512);
        desk(0, 10).illegalState(each("inherit(#, #)", range(0, LAST_ROLE)));
    }

    private static Desk chainDown() {
        return desk(1, 10, "grant(9, 15)", "inherit(0, 1)", "inherit(1, 2)", "inherit(2, 3)",
                "inherit(3, 4)", "inherit(4, 5)", "inherit(5, 6)", "inherit(6, 7)", "inherit(7, 8)",
                "inherit(8, 9)");
    }

    private static Desk chainUp() {
        return desk(1, 10, "grant(0, 15)", "inherit(9, 8)", "inherit(8, 7)", "inherit(7, 6)",
                "inherit(6, 5)", "inherit(5, 4)", "inherit(4, 3)", "inherit(3, 2)", "inherit(2, 1)",
                "inherit(1, 0)");
    }

    private static void termARoleIsSeniorThroughTheLongestChain() {
        chainDown().answers("juniors(0)", ALL_ROLES);
        chainDown().answers("permissions(0, true)", 1 << 15);
        chainDown().then("assign(0, 0)").answers("usersOf(9, true)", 1);
        chainUp().answers("juniors(9)", ALL_ROLES);
        chainUp().answers("permissions(9, true)", 1 << 15);
        chainUp().then("assign(0, 9)").answers("usersOf(0, true)", 1);
        chainUp().then("assign(0, 9)", "open(0, 512)").answers("check(0, 15)", true);
    }

    private static void termAJuniorIsNotSenior() {
        chainDown().answers("juniors(9)", 512);
        chainDown().answers("juniors(5)", 512 + 256 + 128 + 64 + 32);
        chainDown().then("assign(0, 9)").answers("rolesOf(0, true)", 512);
        chainUp().answers("juniors(0)", 1);
        chainUp().then("grant(9, 3)").answers("permissions(8, true)", 1 << 15);
    }

    private static void termNobodyInheritsInACircle() {
        desk(0, 2, "inherit(0, 1)").illegalState("inherit(1, 0)");
        desk(0, 3, "inherit(0, 1)", "inherit(1, 2)").illegalState("inherit(2, 0)");
        chainDown().illegalState(each("inherit(9, #)", range(0, LAST_ROLE)));
        chainUp().illegalState(each("inherit(0, #)", range(0, LAST_ROLE)));
    }

    private static void termTwoWaysToOneRoleAreNoCircle() {
        Desk two = desk(0, 4, "inherit(0, 1)", "inherit(0, 2)", "inherit(1, 3)");
        two.answers("inherit(2, 3)", 1);
        two.answers("inherit(0, 3)", 3);
        chainDown().answers("inherit(0, 9)", 2);
    }

    private static void termWhatIsNoMoreACircleMay() {
        desk(0, 2, "inherit(0, 1)", "disinherit(0, 1)").answers("inherit(1, 0)", 1);
        chainDown().then("disinherit(4, 5)").answers("inherit(9, 0)", 1);
        chainDown().then("deleteRole(4)").answers("inherit(9, 0)", 1);
    }

    private static void termOnALimitedDeskARoleInheritsOneAtMost() {
        limitedDesk(0, 10).answers("inherit(9, 0)", 1);
        limitedDesk(0, 10, "inherit(9, 0)").illegalState(each("inherit(9, #)", range(1, 8)));
        limitedDesk(0, 10, "inherit(0, 9)").illegalState(each("inherit(0, #)", range(1, 8)));
    }

    private static void termOnALimitedDeskManyMayInheritTheSame() {
        limitedDesk(0, 10).then(each("inherit(#, 0)", range(1, 8))).answers("inherit(9, 0)", 1);
        limitedDesk(0, 10, "inherit(0, 1)").answers("inherit(1, 2)", 1);
    }

    private static void termOnALimitedDeskTheOneMayBeAnother() {
        limitedDesk(0, 3, "inherit(0, 1)", "disinherit(0, 1)").answers("inherit(0, 2)", 1);
        limitedDesk(0, 3, "inherit(0, 1)", "deleteRole(1)").answers("inherit(0, 2)", 1);
        limitedDesk(0, 3, "inherit(0, 1)", "deleteRole(0)", "addRole()")
                .answers("inherit(0, 2)", 1);
    }

    // ------------------------------------------------------------------ Terms: who has what

    private static void termAUserIsAuthorisedForWhatIsJuniorToTheirRoles() {
        chainDown().then("assign(0, 5)").answers("rolesOf(0, true)", 512 + 256 + 128 + 64 + 32);
        chainDown().then("assign(0, 5)").answers("usersOf(4, true)", 0);
        chainDown().then("assign(0, 5)").answers("usersOf(5, true)", 1);
        chainDown().then("assign(0, 5)").answers("usersOf(9, true)", 1);
        chainDown().then("assign(0, 5)").answers("usersOf(9, false)", 0);
    }

    private static void termASessionHasWhatItsActiveRolesHave() {
        Desk desk = desk(1, 4, "inherit(0, 1)", "inherit(1, 2)", "grant(0, 0)", "grant(1, 1)",
                "grant(2, 2)", "grant(3, 3)", "assign(0, 0)", "assign(0, 3)", "open(0, 2)");
        desk.answers("check(0, 0)", false);
        desk.answers("check(0, 1)", true);
        desk.answers("check(0, 2)", true);
        desk.answers("check(0, 3)", false);
    }

    private static void termRolesToWhichActiveOnesAreSeniorNeedNotBeActive() {
        chainDown().then("assign(0, 0)", "open(0, 1)").answers("active(0)", 1);
        chainDown().then("assign(0, 0)", "open(0, 512)").answers("active(0)", 512);
        chainDown().then("assign(0, 0)", "open(0, 0)", "activate(0, 0)").answers("active(0)", 1);
        chainDown().then("assign(0, 0)", "open(0, 1)").illegalState("deactivate(0, 9)");
    }

    // ------------------------------------------------------------------ Terms: sets

    private static void termASetHasAKindRolesAndANumber() {
        desk(1, 10, "addSet(0, 3, 2)").hasSet(0, "0:3:2");
        desk(1, 10, "addSet(1, 768, 2)").hasSet(0, "1:768:2");
        desk(1, 10, "addSet(0, 1023, 10)").hasSet(0, "0:1023:10");
        desk(1, 10, "addSet(1, 1023, 2)").hasSet(0, "1:1023:2");
        desk(1, 10, "addSet(1, 85, 3)").hasSet(0, "1:85:3");
    }

    private static void termAStaticSetIsBrokenFromNRolesOn() {
        for (int n = 2; n <= 10; n++) {
            Desk fewer = desk(1, 10, each("addSet(0, 1023, #)", n))
                    .then(each("assign(0, #)", range(2, n - 1)));
            fewer.answers("assign(0, 0)", n - 1);
            fewer.then("assign(0, 0)").illegalState("assign(0, 1)");
        }
    }

    private static void termAStaticSetIsBrokenByMoreThanN() {
        Desk desk = roleOfAllRoles().then("addSet(0, 1023, 2)");
        desk.illegalState("assign(0, 0)");
        roleOfAllRoles().then("assign(0, 0)")
                .illegalState(each("addSet(0, 1023, #)", range(2, 10)));
    }

    private static void termAStaticSetCountsOnlyItsRoles() {
        Desk desk = desk(1, 10, "addSet(0, 513, 2)").then(each("assign(0, #)", range(0, 7)));
        desk.answers("assign(0, 8)", 9);
        desk.illegalState("assign(0, 9)");
    }

    private static void termAStaticSetCountsWhatUsersAreAuthorisedFor() {
        Desk desk = chainDown().then("addSet(0, 768, 2)");
        desk.illegalState("assign(0, 0)", "assign(0, 8)");
        desk.answers("assign(0, 9)", 1);
        desk.then("assign(0, 9)").illegalState("assign(0, 0)");
    }

    private static void termAStaticSetCountsEachUserAlone() {
        Desk desk = desk(6, 2, "addSet(0, 3, 2)").then(each("assign(#, 0)", range(0, 4)));
        desk.answers("assign(5, 1)", 1);
        desk.then("assign(5, 1)").illegalState("assign(5, 0)");
        desk.then("assign(5, 1)").illegalState(each("assign(#, 1)", range(0, 4)));
    }

    private static void termAStaticSetCountsWhoHasNoSession() {
        desk(6, 2, "assign(5, 0)", "assign(5, 1)").illegalState("addSet(0, 3, 2)");
    }

    private static void termADynamicSetIsBrokenFromNRolesOn() {
        Desk all = userOfAllRoles(1).then("open(0, 0)");
        for (int n = 2; n <= 10; n++) {
            Desk fewer = all.then(each("addSet(1, 1023, #)", n))
                    .then(each("activate(0, #)", range(2, n - 1)));
            fewer.answers("activate(0, 0)", n - 1);
            fewer.then("activate(0, 0)").illegalState("activate(0, 1)");
            fewer.answers("open(0, " + ((1 << n - 1) - 1) + ")", 1);
            fewer.illegalState("open(0, " + ((1 << n) - 1) + ")", "open(0, 1023)");
        }
    }

    private static void termADynamicSetCountsActiveRolesAlone() {
        Desk desk = chainDown().then("assign(0, 0)", "addSet(1, 1023, 2)");
        desk.answers("open(0, 1)", 0);
        desk.then("open(0, 1)").illegalState("activate(0, 1)");
    }

    private static void termADynamicSetCountsOnlyItsRoles() {
        Desk desk = userOfAllRoles(1).then("addSet(1, 513, 2)");
        desk.answers("open(0, 511)", 0);
        desk.answers("open(0, 1022)", 0);
        desk.illegalState("open(0, 1023)", "open(0, 513)");
    }

    private static void termADynamicSetCountsEachSessionAlone() {
        Desk desk = desk(1, 2, "assign(0, 0)", "assign(0, 1)", "addSet(1, 3, 2)")
                .then(times(5, "open(0, 1)"));
        desk.answers("open(0, 2)", 5);
        desk.then("open(0, 2)").illegalState("activate(5, 0)", "activate(0, 1)");
    }

    private static void termEverySetOfTheDeskCounts() {
        for (int k = 0; k <= LAST_SET; k++) {
            Desk others = desk(1, 10, "assign(0, 0)").then(times(k, "addSet(0, 12, 2)"));
            Desk one = others.then("addSet(0, 3, 2)").then(times(3 - k, "addSet(0, 12, 2)"));
            one.illegalState("assign(0, 1)", "inherit(0, 1)");
            Desk active = others.then("assign(0, 1)", "open(0, 1)", "addSet(1, 3, 2)")
                    .then(times(3 - k, "addSet(0, 12, 2)"));
            active.illegalState("activate(0, 1)", "open(0, 3)");
        }
    }

    private static void termWhatBreaksOneOfTheKindsIsOpenToTheOther() {
        Desk dynamic = desk(1, 2, "addSet(1, 3, 2)", "assign(0, 0)");
        dynamic.answers("assign(0, 1)", 2);
        dynamic.answers("inherit(0, 1)", 1);
        dynamic.then("assign(0, 1)").answers("addSet(1, 3, 2)", 1);
        dynamic.then("assign(0, 1)").illegalState("addSet(0, 3, 2)");
    }

    // ------------------------------------------------------------------ Terms: no more active

    private static void termNoMoreAuthorisedByDeassignIsNoMoreActive() {
        Desk desk = chainDown().then("assign(0, 0)", "open(0, 1023)");
        desk.then("deassign(0, 0)").answers("active(0)", 0);
        desk.then("assign(0, 5)", "deassign(0, 0)").answers("active(0)", 512 + 256 + 128 + 64 + 32);
        desk.then("assign(0, 9)", "deassign(0, 0)").answers("active(0)", 512);
    }

    private static void termNoMoreAuthorisedByDisinheritIsNoMoreActive() {
        Desk desk = chainDown().then("assign(0, 0)", "open(0, 1023)");
        desk.then("disinherit(0, 1)").answers("active(0)", 1);
        desk.then("disinherit(8, 9)").answers("active(0)", 511);
        desk.then("inherit(3, 9)", "disinherit(4, 5)").answers("active(0)", 31 + 512);
    }

    private static void termNoMoreAuthorisedByDeleteRoleIsNoMoreActive() {
        Desk desk = chainDown().then("assign(0, 0)", "open(0, 1023)");
        desk.then("deleteRole(0)").answers("active(0)", 0);
        desk.then("deleteRole(5)").answers("active(0)", 31);
        desk.then("deleteRole(9)").answers("active(0)", 511);
        desk.then("assign(0, 6)", "deleteRole(5)").answers("active(0)", 1023 - 32);
    }

    private static void termStillAuthorisedAnotherWayStaysActive() {
        Desk desk = desk(1, 4, "inherit(0, 2)", "inherit(1, 2)", "inherit(2, 3)", "assign(0, 0)",
                "assign(0, 1)", "open(0, 12)");
        desk.then("deassign(0, 0)").answers("active(0)", 12);
        desk.then("disinherit(1, 2)").answers("active(0)", 12);
        desk.then("deleteRole(0)").answers("active(0)", 12);
        desk.then("assign(0, 3)", "deassign(0, 0)", "deassign(0, 1)").answers("active(0)", 8);
    }

    private static void termASessionGoesOnWithoutItsRoles() {
        Desk desk = chainDown().then("assign(0, 0)").then(times(6, "open(0, 1023)"));
        desk.then("deassign(0, 0)").answers("sessionsOf(0)", ALL_SESSIONS);
        desk.then("deleteRole(0)").answers("there(2)", ALL_SESSIONS);
        for (String call : each("active(#)", range(0, LAST_SESSION))) {
            desk.then("deassign(0, 0)").answers(call, 0);
            desk.then("deleteRole(0)").answers(call, 0);
            desk.then("disinherit(0, 1)").answers(call, 1);
        }
    }

    private static void termTheSessionsOfOthersKeepTheirRoles() {
        Desk desk = desk(6, 2).then(each("assign(#, 0)", range(0, 5)))
                .then(each("open(#, 1)", range(0, 5)));
        desk.then("deassign(0, 0)").answers("active(0)", 0);
        for (String call : each("active(#)", range(1, LAST_SESSION))) {
            desk.then("deassign(0, 0)").answers(call, 1);
        }
    }

    private static void termWhatIsNoMoreActiveDoesNotComeBack() {
        Desk desk = desk(1, 2, "inherit(0, 1)", "assign(0, 0)", "open(0, 3)");
        desk.then("deassign(0, 0)", "assign(0, 0)").answers("active(0)", 0);
        desk.then("disinherit(0, 1)", "inherit(0, 1)").answers("active(0)", 1);
        desk.then("deassign(0, 0)", "assign(0, 0)").answers("activate(0, 1)", 1);
    }

    // ------------------------------------------------------------------ Terms: EXCEPTIONS

    private static void termNoSuchElementComesBeforeIllegalArgument() {
        desk(1, 3).noSuchElement("addSet(2, 8, 2)", "addSet(-1, -1, 2)", "addSet(0, 8, 1)",
                "addSet(1, 11, 4)", "addSet(7, 8, 0)",
                "addSet(" + MIN + ", " + MIN + ", " + MAX + ")");
        Desk one = desk(1, 3, "addSet(0, 3, 2)");
        one.noSuchElement("changeSet(0, 8, 2)", "changeSet(0, 11, 1)", "changeSet(0, 11, 4)",
                "changeSet(0, " + MIN + ", " + MIN + ")");
        one.noSuchElement("changeSet(1, 3, 1)", "changeSet(1, 3, 3)", "changeSet(1, 0, 0)",
                "changeSet(4, 3, 1)", "changeSet(-1, 3, 3)", "changeSet(1, 8, 0)");
    }

    private static void termNoSuchElementComesBeforeWhatTheyAreNot() {
        Desk desk = desk(1, 1, "open(0, 0)");
        desk.noSuchElement("deassign(0, 1)", "deassign(1, 0)", "deassign(1, 1)");
        desk.noSuchElement("revoke(0, 16)", "revoke(1, 0)", "revoke(1, -1)");
        desk.noSuchElement("disinherit(0, 1)", "disinherit(1, 0)", "disinherit(1, 1)");
        desk.noSuchElement("deactivate(0, 1)", "deactivate(1, 0)", "deactivate(1, 1)");
        desk.noSuchElement("activate(0, 1)", "activate(1, 0)", "activate(1, 1)");
    }

    private static void termNoSuchElementComesBeforeLimitedAndCircle() {
        Desk desk = limitedDesk(0, 2, "inherit(0, 1)");
        desk.noSuchElement("inherit(0, 2)", "inherit(0, -1)", "inherit(0, 10)");
        desk.noSuchElement("inherit(2, 2)", "inherit(10, 10)", "inherit(-1, -1)");
    }

    private static void termNoSuchElementComesBeforeNotAuthorised() {
        desk(1, 2).noSuchElement("open(0, 4)", "open(0, 7)", "open(1, 1)", "open(6, 3)",
                "open(0, -1)");
    }

    private static void termNoSuchElementComesBeforeFull() {
        fullDesk().noSuchElement("open(6, 0)", "open(-1, 0)", "open(0, 1024)", "open(0, 1025)");
        fullDesk().noSuchElement("addSet(0, 1024, 2)", "addSet(1, 1030, 2)", "addSet(0, -1, 2)");
    }

    private static void termNoSuchElementComesBeforeBrokenSets() {
        Desk desk = desk(1, 2, "assign(0, 0)", "assign(0, 1)", "open(0, 3)");
        desk.noSuchElement("addSet(0, 7, 2)", "addSet(1, 7, 2)");
        Desk dynamic = desk(1, 3, "assign(0, 0)", "assign(0, 1)", "addSet(1, 3, 2)");
        dynamic.noSuchElement("open(0, 11)", "changeSet(1, 3, 2)", "changeSet(0, 11, 2)");
        desk(1, 3, "assign(0, 0)", "assign(0, 1)", "addSet(0, 6, 2)")
                .noSuchElement("changeSet(0, 11, 2)",
                "changeSet(1, 3, 2)", "changeSet(4, 3, 2)");
    }

    private static void termIllegalArgumentComesBeforeFull() {
        fullDesk().illegalArgument("addSet(2, 6, 2)", "addSet(-1, 6, 2)", "addSet(0, 6, 1)",
                "addSet(1, 6, 3)", "addSet(0, 0, 2)", "addSet(1, 0, 0)");
    }

    private static void termIllegalArgumentComesBeforeBrokenSets() {
        Desk desk = desk(1, 3, "assign(0, 0)", "assign(0, 1)", "open(0, 3)");
        desk.illegalArgument("addSet(0, 3, 1)", "addSet(0, 3, 0)", "addSet(1, 3, 1)",
                "addSet(1, 0, 0)", "addSet(0, 3, " + MIN + ")", "addSet(2, 3, 2)", "addSet(-1, 3, 2)");
        desk.then("addSet(0, 6, 2)").illegalArgument("changeSet(0, 3, 1)", "changeSet(0, 1, 1)",
                "changeSet(0, 0, 0)", "changeSet(0, 3, " + MIN + ")");
        desk.then("addSet(1, 6, 2)").illegalArgument("changeSet(0, 3, 1)", "changeSet(0, 0, 0)");
    }

    private static void termFullIsNoFreeNumber() {
        fullDesk().illegalState("addUser()", "addRole()", "open(0, 0)", "addSet(0, 6, 2)",
                "addSet(1, 3, 2)");
        fullDesk().then("deleteUser(3)").answers("addUser()", 3);
        fullDesk().then("deleteRole(4)").answers("addRole()", 4);
        fullDesk().then("close(2)").answers("open(0, 0)", 2);
        fullDesk().then("deleteSet(1)").answers("addSet(0, 6, 2)", 1);
    }

    private static boolean mayAnswer(String name, String answer) {
        switch (answer) {
            case NO_SUCH_ELEMENT:
                return !Set.of("addUser", "addRole", "there").contains(name);
            case ILLEGAL_ARGUMENT:
                return Set.of("addSet", "changeSet").contains(name);
            case ILLEGAL_STATE:
                return !QUESTIONS.contains(name)
                        && !Set.of("deleteUser", "deleteRole", "deleteSet", "close").contains(name);
            default:
                return !answer.startsWith("throws.");
        }
    }

    /** The pattern's first # stands for the first number, and so on. */
    private static List<String> everyWay(List<String> patterns, int... numbers) {
        List<String> calls = new ArrayList<>();
        for (String pattern : patterns) {
            if (!pattern.contains("#")) {
                calls.add(pattern);
                continue;
            }
            List<String> next = IntStream.of(numbers)
                    .mapToObj(i -> pattern.replaceFirst("#", String.valueOf(i))).toList();
            calls.addAll(everyWay(next, numbers));
        }
        return calls;
    }

    private static List<String> callsWithNumbersOfAllSizes() {
        List<String> calls = new ArrayList<>();
        calls.addAll(everyWay(List.of("addUser()", "addRole()", "deleteUser(#)", "deleteRole(#)",
                "deleteSet(#)", "close(#)", "juniors(#)", "active(#)", "sessionsOf(#)", "there(#)",
                "rolesOf(#, true)", "rolesOf(#, false)", "usersOf(#, true)", "usersOf(#, false)",
                "permissions(#, true)", "permissions(#, false)", "assign(#, #)", "deassign(#, #)",
                "grant(#, #)", "revoke(#, #)", "inherit(#, #)", "disinherit(#, #)", "open(#, #)",
                "activate(#, #)", "deactivate(#, #)", "check(#, #)"),
                MIN, MIN + 1, -33, -1, 0, 1, 2, 3, 5, 6, 9, 10, 15, 16, 31, 32, 33, 768, 1023, 1024,
                MAX));
        calls.addAll(everyWay(List.of("addSet(#, #, #)", "changeSet(#, #, #)"),
                MIN, -1, 0, 1, 2, 3, 4, 10, 513, 1023, 1024, MAX));
        return calls;
    }

    private static void termNothingElseIsThrown() {
        for (Desk desk : List.of(desk(0, 0), fullDesk(), sparseDesk())) {
            for (String told : callsWithNumbersOfAllSizes()) {
                Call call = new Call(told);
                String answer = call.answer(desk.made());
                boolean may = mayAnswer(call.name, answer);
                desk.compare(told, answer, may ? answer : "what the document lets it answer");
            }
        }
    }

    private static void termACallThatThrowsChangesNothing() {
        for (Desk desk : List.of(desk(0, 0), fullDesk(), sparseDesk())) {
            for (String told : callsWithNumbersOfAllSizes()) {
                Call call = new Call(told);
                if (call.answer(desk.made()).startsWith("throws.")) {
                    desk.leavesAll(call);
                }
            }
        }
    }

    // ------------------------------------------------------------------ Promise 1: a new object

    private static void promise01Users0To6AreTakenAsTheyAre() {
        for (int users = 0; users <= 6; users++) {
            desk(users, 3).answers("there(0)", (1 << users) - 1);
            desk(users, 3).answers("there(1)", 7);
        }
    }

    private static void promise01FewerUsersThan0AreTakenAs0() {
        for (int users : new int[] {-1, -2, -6, -26, -31, -32, MIN, MIN + 1, MIN + 6}) {
            desk(users, 3).answers("there(0)", 0);
            desk(users, 3).answers("there(1)", 7);
            desk(users, 3).answers("addUser()", 0);
        }
    }

    private static void promise01MoreUsersThan6AreTakenAs6() {
        for (int users : new int[] {7, 8, 10, 31, 32, 33, 64, 256, MAX - 1, MAX}) {
            desk(users, 3).answers("there(0)", ALL_USERS);
            desk(users, 3).answers("there(1)", 7);
            desk(users, 3).illegalState("addUser()");
        }
    }

    private static void promise01Roles0To10AreTakenAsTheyAre() {
        for (int roles = 0; roles <= 10; roles++) {
            desk(3, roles).answers("there(1)", (1 << roles) - 1);
            desk(3, roles).answers("there(0)", 7);
        }
    }

    private static void promise01FewerRolesThan0AreTakenAs0() {
        for (int roles : new int[] {-1, -2, -10, -22, -31, -32, MIN, MIN + 1, MIN + 10}) {
            desk(3, roles).answers("there(1)", 0);
            desk(3, roles).answers("there(0)", 7);
            desk(3, roles).answers("addRole()", 0);
        }
    }

    private static void promise01MoreRolesThan10AreTakenAs10() {
        for (int roles : new int[] {11, 12, 16, 31, 32, 33, 64, 256, MAX - 1, MAX}) {
            desk(3, roles).answers("there(1)", ALL_ROLES);
            desk(3, roles).answers("there(0)", 7);
            desk(3, roles).illegalState("addRole()");
        }
    }

    private static void promise01Mode1IsLimited() {
        limitedDesk(1, 3).answers("inherit(0, 1)", 1);
        limitedDesk(1, 3, "inherit(0, 1)").illegalState("inherit(0, 2)");
    }

    private static void promise01NoOtherModeIsLimited() {
        for (int mode : new int[] {0, 2, -1, 3, 33, 257, 65537, MIN, MIN + 1, MAX}) {
            new Desk(1, 3, mode, "inherit(0, 1)").answers("inherit(0, 2)", 2);
        }
    }

    private static void promise01NothingElseIsThere() {
        for (int mode = 0; mode <= 2; mode++) {
            Desk desk = new Desk(6, 10, mode);
            desk.answers("there(2)", 0);
            desk.answers("there(3)", 0);
            desk.answers("there(4)", 0);
            for (int r = 0; r <= LAST_ROLE; r++) {
                desk.answers("usersOf(" + r + ", true)", 0);
                desk.answers("permissions(" + r + ", true)", 0);
                desk.answers("juniors(" + r + ")", 1 << r);
            }
        }
    }

    // ------------------------------------------------------------------ Promise 2: addUser

    private static void promise02FromNoneToAll() {
        for (int users = 0; users <= LAST_USER; users++) {
            desk(users, 0).answers("addUser()", users);
            desk(0, 0).then(times(users, "addUser()")).answers("addUser()", users);
            desk(0, 0).then(times(users, "addUser()")).isAsAfter(desk(users, 0));
        }
    }

    private static void promise02FullIsRefused() {
        desk(6, 0).illegalState("addUser()");
        desk(0, 10).then(times(6, "addUser()")).illegalState("addUser()");
    }

    private static void promise02WhoWentMakesRoom() {
        for (int u = 0; u <= LAST_USER; u++) {
            desk(6, 0, each("deleteUser(#)", u)).answers("addUser()", u);
            desk(6, 0, each("deleteUser(#)", u)).then("addUser()").illegalState("addUser()");
        }
    }

    private static void promise02ANewUserHasNothingOfTheOldOne() {
        fullDesk().then("deleteUser(5)", "addUser()").answers("rolesOf(5, true)", 0);
        fullDesk().then("deleteUser(5)", "addUser()").answers("sessionsOf(5)", 0);
        fullDesk().then("deleteUser(5)", "addUser()").answers("assign(5, 0)", 1);
    }

    // ------------------------------------------------------------------ Promise 3: deleteUser

    private static void promise03TheUserMustBeThere() {
        userMustBeThere("deleteUser(#)");
        desk(6, 0, "deleteUser(5)").noSuchElement("deleteUser(5)");
    }

    private static void promise03AnswersHowManySessionsEndedFrom0To6() {
        for (int sessions = 0; sessions <= 6; sessions++) {
            Desk desk = desk(2, 0).then(times(sessions, "open(0, 0)"));
            desk.answers("deleteUser(0)", sessions);
            desk.answers("deleteUser(1)", 0);
            desk.then("deleteUser(0)").answers("there(2)", 0);
            desk.then("deleteUser(1)").answers("there(2)", (1 << sessions) - 1);
        }
    }

    private static void promise03TheSessionsOfOthersGoOn() {
        Desk desk = desk(6, 1, "assign(0, 0)", "assign(5, 0)", "open(0, 1)", "open(5, 1)",
                "open(0, 1)", "open(5, 0)", "open(0, 0)", "open(5, 1)");
        desk.then("deleteUser(0)").answers("sessionsOf(5)", 2 + 8 + 32);
        desk.then("deleteUser(0)").answers("active(5)", 1);
        desk.then("deleteUser(5)").answers("sessionsOf(0)", 1 + 4 + 16);
        desk.then("deleteUser(5)").answers("active(0)", 1);
    }

    private static void promise03EndedSessionsAreFree() {
        fullDesk().then("deleteUser(5)").noSuchElement("active(5)", "close(5)", "check(5, 15)");
        fullDesk().then("deleteUser(5)").answers("open(0, 0)", 5);
        fullDesk().then("deleteUser(0)").answers("open(5, 0)", 0);
    }

    private static void promise03TheUserGoes() {
        for (int u = 0; u <= LAST_USER; u++) {
            Desk desk = desk(6, 1).then(each("assign(#, 0)", range(0, 5)))
                    .then(each("deleteUser(#)", u));
            desk.answers("there(0)", ALL_USERS - (1 << u));
            desk.answers("usersOf(0, false)", ALL_USERS - (1 << u));
            desk.answers("usersOf(0, true)", ALL_USERS - (1 << u));
            desk.noSuchElement(each("rolesOf(#, false)", u));
        }
    }

    private static void promise03WhoIsGoneBreaksNoSet() {
        Desk desk = desk(6, 2, "assign(5, 0)", "assign(5, 1)", "open(5, 3)", "deleteUser(5)");
        desk.answers("addSet(0, 3, 2)", 0);
        desk.answers("addSet(1, 3, 2)", 0);
        desk(6, 2, "assign(5, 0)", "addSet(0, 3, 2)", "deleteUser(5)").answers("inherit(0, 1)", 1);
    }

    // ------------------------------------------------------------------ Promise 4: addRole

    private static void promise04FromNoneToAll() {
        for (int roles = 0; roles <= LAST_ROLE; roles++) {
            desk(0, roles).answers("addRole()", roles);
            desk(0, 0).then(times(roles, "addRole()")).answers("addRole()", roles);
            desk(0, 0).then(times(roles, "addRole()")).isAsAfter(desk(0, roles));
        }
    }

    private static void promise04FullIsRefused() {
        desk(0, 10).illegalState("addRole()");
        desk(6, 0).then(times(10, "addRole()")).illegalState("addRole()");
    }

    private static void promise04WhatWentMakesRoom() {
        for (int r = 0; r <= LAST_ROLE; r++) {
            desk(0, 10, each("deleteRole(#)", r)).answers("addRole()", r);
            desk(0, 10, each("deleteRole(#)", r)).then("addRole()").illegalState("addRole()");
        }
    }

    private static void promise04ANewRoleHasNothingOfTheOldOne() {
        Desk old = desk(1, 10).then(each("grant(9, #)", range(0, 15)))
                .then("inherit(9, 0)", "inherit(1, 9)",
                "assign(0, 9)", "assign(0, 1)", "open(0, 512)", "addSet(1, 769, 2)");
        Desk same = desk(1, 10, "assign(0, 1)", "open(0, 0)", "addSet(1, 257, 2)");
        old.then("deleteRole(9)", "addRole()").isAsAfter(same);
    }

    // ------------------------------------------------------------------ Promise 5: deleteRole

    private static void promise05TheRoleMustBeThere() {
        roleMustBeThere("deleteRole(#)");
        desk(0, 10, "deleteRole(9)").noSuchElement("deleteRole(9)");
    }

    private static void promise05TheRoleGoes() {
        for (int r = 0; r <= LAST_ROLE; r++) {
            desk(0, 10).answers("deleteRole(" + r + ")", 0);
            desk(0, 10, each("deleteRole(#)", r)).answers("there(1)", ALL_ROLES - (1 << r));
        }
        desk(0, 1).then("deleteRole(0)").answers("there(1)", 0);
    }

    private static void promise05NobodyIsAssignedIt() {
        Desk desk = desk(6, 2).then(each("assign(#, 0)", range(0, 5)))
                .then("assign(5, 1)", "deleteRole(0)");
        for (String call : each("rolesOf(#, true)", range(0, 4))) {
            desk.answers(call, 0);
        }
        desk.answers("rolesOf(5, true)", 2);
        desk.then("addRole()").answers("usersOf(0, false)", 0);
    }

    private static void promise05ItInheritsNothing() {
        Desk desk = roleOfAllRoles().then("deleteRole(0)", "addRole()");
        desk.answers("juniors(0)", 1);
        desk.answers("inherit(9, 0)", 1);
        desk.isAsAfter(desk(1, 10));
    }

    private static void promise05NothingInheritsIt() {
        for (int gone = 0; gone <= LAST_ROLE; gone++) {
            String pattern = "inherit(#, " + gone + ")";
            int others = ALL_ROLES & ~(1 << gone);
            Desk desk = desk(1, 10, each(pattern, numbersIn(others)))
                    .then("deleteRole(" + gone + ")");
            for (int r : numbersIn(others)) {
                desk.answers("juniors(" + r + ")", 1 << r);
            }
            desk.then("addRole()").isAsAfter(desk(1, 10));
        }
    }

    private static void promise05WhatItWasBetweenIsApart() {
        chainDown().then("deleteRole(5)").answers("juniors(0)", 31);
        chainDown().then("deleteRole(5)").answers("juniors(6)", 64 + 128 + 256 + 512);
        chainDown().then("deleteRole(5)").answers("permissions(0, true)", 0);
    }

    private static void promise05ItIsTakenOutOfEverySet() {
        Desk desk = desk(1, 10, "addSet(0, 515, 2)", "addSet(1, 515, 2)", "addSet(0, 1023, 9)",
                "addSet(1, 1023, 3)");
        desk.answers("deleteRole(9)", 0);
        desk.then("deleteRole(9)").hasSet(0, "0:3:2");
        desk.then("deleteRole(9)").hasSet(1, "1:3:2");
        desk.then("deleteRole(9)").hasSet(2, "0:511:9");
        desk.then("deleteRole(9)").hasSet(3, "1:511:3");
        desk.then("deleteRole(9)", "addRole()").hasSet(3, "1:511:3");
    }

    private static void promise05ASetWithNRolesLeftStays() {
        for (int n = 2; n <= 9; n++) {
            int roles = (1 << n + 1) - 1;
            Desk desk = desk(1, 10, "addSet(0, " + roles + ", " + n + ")");
            desk.answers("deleteRole(0)", 0);
            desk.then("deleteRole(0)").hasSet(0, "0:" + (roles - 1) + ":" + n);
        }
    }

    private static void promise05ASetWithFewerThanNRolesGoes() {
        for (int n = 2; n <= 10; n++) {
            int roles = (1 << n) - 1;
            Desk desk = desk(1, 10, "addSet(1, " + roles + ", " + n + ")");
            desk.answers("deleteRole(0)", 1);
            desk.then("deleteRole(0)").answers("there(4)", 0);
            desk.then("deleteRole(0)").noSuchElement("deleteSet(0)", "changeSet(0, 6, 2)");
        }
    }

    private static void promise05AnswersHowManySetsWentFrom0To4() {
        for (int gone = 0; gone <= 4; gone++) {
            Desk desk = desk(1, 4).then(times(4 - gone, "addSet(0, 12, 2)"))
                    .then(times(gone, "addSet(1, 9, 2)"));
            desk.answers("deleteRole(0)", gone);
            desk.then("deleteRole(0)").answers("there(3)", (1 << 4 - gone) - 1);
            desk.then("deleteRole(0)").answers("there(4)", 0);
        }
    }

    private static void promise05OfSeveralSetsThoseWithFewerThanNGo() {
        Desk desk = desk(1, 4, "addSet(0, 7, 3)", "addSet(1, 7, 2)", "addSet(1, 3, 2)",
                "addSet(0, 14, 3)");
        desk.answers("deleteRole(0)", 2);
        desk.then("deleteRole(0)").answers("there(3)", 8);
        desk.then("deleteRole(0)").answers("there(4)", 2);
        desk.then("deleteRole(0)").answers("deleteRole(1)", 2);
        desk.then("deleteRole(0)").answers("addSet(0, 6, 2)", 0);
    }

    private static void promise05ASetThatWentKeepsNothingApart() {
        Desk desk = desk(1, 3, "addSet(0, 7, 3)", "addSet(1, 7, 3)", "deleteRole(2)", "addRole()",
                "assign(0, 0)", "assign(0, 1)");
        desk.answers("assign(0, 2)", 3);
        desk.then("assign(0, 2)").answers("open(0, 7)", 0);
        desk.then("assign(0, 2)").answers("deleteRole(2)", 0);
    }

    private static void promise05WhatHungOnItIsNoMoreActive() {
        Desk desk = desk(2, 4, "inherit(0, 1)", "inherit(1, 2)", "assign(0, 0)", "assign(0, 3)",
                "assign(1, 2)", "open(0, 15)", "open(1, 4)");
        desk.then("deleteRole(1)").answers("active(0)", 1 + 8);
        desk.then("deleteRole(1)").answers("active(1)", 4);
        desk.then("deleteRole(0)").answers("active(0)", 8);
        desk.then("deleteRole(3)").answers("active(0)", 7);
    }

    // ------------------------------------------------------------------ Promise 6: assign

    private static void promise06UserAndRoleMustBeThere() {
        userMustBeThere("assign(#, 1)");
        roleMustBeThere("assign(1, #)");
        desk(1, 1).noSuchElement("assign(1, 1)", "assign(-1, -1)", "assign(6, 10)");
    }

    private static void promise06AnswersHowManyFrom1To10() {
        for (int r = 0; r <= LAST_ROLE; r++) {
            Desk desk = desk(6, 10).then(each("assign(5, #)", range(0, r - 1)));
            desk.answers("assign(5, " + r + ")", r + 1);
            desk.then("assign(5, " + r + ")").answers("rolesOf(5, false)", (2 << r) - 1);
            desk.answers("assign(0, " + r + ")", 1);
        }
    }

    private static void promise06WhoIsAssignedItIsRefused() {
        Desk desk = userOfAllRoles(1);
        desk.illegalState(each("assign(0, #)", range(0, 9)));
    }

    private static void promise06WhoIsOnlyAuthorisedForItMay() {
        chainDown().then("assign(0, 0)").answers("assign(0, 9)", 2);
        chainDown().then("assign(0, 9)").answers("assign(0, 0)", 2);
    }

    private static void promise06WhatWouldBreakASetIsRefused() {
        Desk desk = desk(1, 10, "addSet(0, 519, 3)", "assign(0, 9)");
        desk.answers("assign(0, 0)", 2);
        desk.then("assign(0, 0)").illegalState("assign(0, 1)", "assign(0, 2)");
        desk.then("assign(0, 0)").answers("assign(0, 3)", 3);
        desk.then("inherit(0, 1)").illegalState("assign(0, 0)");
        desk.then("inherit(3, 0)", "inherit(3, 2)").illegalState("assign(0, 3)");
    }

    // ------------------------------------------------------------------ Promise 7: deassign

    private static void promise07UserAndRoleMustBeThere() {
        userMustBeThere("deassign(#, 1)");
        roleMustBeThere("deassign(1, #)");
    }

    private static void promise07AnswersHowManyFrom9To0() {
        Desk desk = userOfAllRoles(1);
        for (int r = 0; r <= LAST_ROLE; r++) {
            desk.answers("deassign(0, " + r + ")", 9 - r);
            desk = desk.then("deassign(0, " + r + ")");
            desk.answers("rolesOf(0, false)", ALL_ROLES & ~((2 << r) - 1));
        }
    }

    private static void promise07WhoIsNotAssignedItIsRefused() {
        desk(1, 10).illegalState(each("deassign(0, #)", range(0, 9)));
        desk(2, 1, "assign(0, 0)").illegalState("deassign(1, 0)");
        desk(1, 1, "assign(0, 0)", "deassign(0, 0)").illegalState("deassign(0, 0)");
    }

    private static void promise07WhoIsOnlyAuthorisedForItIsRefused() {
        chainDown().then("assign(0, 0)").illegalState(each("deassign(0, #)", range(1, 9)));
    }

    private static void promise07OnlyThatUserAndRole() {
        Desk desk = desk(2, 2, "assign(0, 0)", "assign(0, 1)", "assign(1, 0)", "assign(1, 1)");
        desk.then("deassign(0, 0)")
                .isAsAfter(desk(2, 2, "assign(0, 1)", "assign(1, 0)", "assign(1, 1)"));
    }

    // ------------------------------------------------------------------ Promise 8: grant

    private static void promise08RoleAndPermissionMustBeThere() {
        roleMustBeThere("grant(#, 0)");
        permissionMustBeThere("grant(1, #)");
        desk(0, 1).noSuchElement("grant(1, 16)", "grant(-1, -1)");
    }

    private static void promise08AnswersHowManyFrom1To16() {
        for (int p = 0; p <= LAST_PERMISSION; p++) {
            Desk desk = desk(0, 10).then(each("grant(9, #)", range(0, p - 1)));
            desk.answers("grant(9, " + p + ")", p + 1);
            desk.then("grant(9, " + p + ")").answers("permissions(9, false)", (2 << p) - 1);
            desk.answers("grant(0, " + p + ")", 1);
        }
    }

    private static void promise08WhatIsGrantedItIsRefused() {
        Desk desk = desk(0, 1).then(each("grant(0, #)", range(0, 15)));
        desk.illegalState(each("grant(0, #)", range(0, 15)));
    }

    private static void promise08WhatOnlyHasItMay() {
        chainDown().answers("grant(0, 15)", 1);
        chainDown().answers("grant(8, 15)", 1);
        chainDown().then("grant(0, 3)").answers("grant(9, 3)", 2);
    }

    // ------------------------------------------------------------------ Promise 9: revoke

    private static void promise09RoleAndPermissionMustBeThere() {
        roleMustBeThere("revoke(#, 0)");
        permissionMustBeThere("revoke(7, #)");
    }

    private static void promise09AnswersHowManyFrom15To0() {
        Desk desk = desk(0, 1).then(each("grant(0, #)", range(0, 15)));
        for (int p = 0; p <= LAST_PERMISSION; p++) {
            desk.answers("revoke(0, " + p + ")", 15 - p);
            desk = desk.then("revoke(0, " + p + ")");
            desk.answers("permissions(0, false)", ALL_PERMISSIONS & ~((2 << p) - 1));
        }
    }

    private static void promise09WhatIsNotGrantedItIsRefused() {
        desk(0, 1).illegalState(each("revoke(0, #)", range(0, 15)));
        desk(0, 1, "grant(0, 15)", "revoke(0, 15)").illegalState("revoke(0, 15)");
        desk(0, 2, "grant(0, 0)").illegalState("revoke(1, 0)");
    }

    private static void promise09WhatOnlyHasItIsRefused() {
        chainDown().illegalState(each("revoke(#, 15)", range(0, 8)));
        chainDown().answers("revoke(9, 15)", 0);
        chainDown().then("revoke(9, 15)").answers("permissions(0, true)", 0);
        chainDown().then("grant(0, 15)", "revoke(0, 15)").isAsAfter(chainDown());
    }

    // ------------------------------------------------------------------ Promise 10: inherit

    private static void promise10BothRolesMustBeThere() {
        roleMustBeThere("inherit(#, 1)");
        roleMustBeThere("inherit(1, #)");
        roleMustBeThere("inherit(#, #)");
    }

    private static void promise10AnswersHowManyFrom1To9() {
        for (int q = 1; q <= LAST_ROLE; q++) {
            Desk desk = desk(0, 10).then(each("inherit(0, #)", range(1, q - 1)));
            desk.answers("inherit(0, " + q + ")", q);
            desk.then("inherit(0, " + q + ")").answers("juniors(0)", (2 << q) - 1);
        }
        desk(0, 10).then(each("inherit(9, #)", range(0, 7))).answers("inherit(9, 8)", 9);
    }

    private static void promise10WhatInheritsItIsRefused() {
        roleOfAllRoles().illegalState(each("inherit(0, #)", range(1, 9)));
        chainDown().illegalState("inherit(0, 1)", "inherit(8, 9)");
    }

    private static void promise10WhatIsOnlySeniorMay() {
        for (int q = 2; q <= LAST_ROLE; q++) {
            chainDown().answers("inherit(0, " + q + ")", 2);
        }
    }

    private static void promise10WhenQIsSeniorItIsRefused() {
        desk(0, 10).illegalState("inherit(0, 0)", "inherit(9, 9)");
        desk(0, 10, "inherit(9, 0)").illegalState("inherit(0, 9)");
        chainDown().illegalState(each("inherit(5, #)", range(0, 5)));
        chainDown().answers("inherit(5, 7)", 2);
    }

    private static void promise10WhenLimitedASecondIsRefused() {
        Desk desk = limitedDesk(0, 10, "inherit(5, 0)");
        desk.illegalState("inherit(5, 9)", "inherit(5, 4)", "inherit(5, 0)");
        desk.answers("inherit(0, 9)", 1);
        desk.answers("inherit(9, 5)", 1);
    }

    private static void promise10WhatWouldBreakASetIsRefused() {
        Desk desk = desk(6, 10, "addSet(0, 769, 3)", "assign(5, 0)", "inherit(0, 1)",
                "inherit(2, 8)");
        desk.answers("inherit(1, 2)", 1);
        desk.answers("inherit(1, 9)", 1);
        desk.then("inherit(1, 2)").illegalState("inherit(2, 9)", "inherit(8, 9)", "inherit(0, 9)");
        desk.then("inherit(2, 9)").illegalState("inherit(1, 2)", "inherit(0, 2)");
        desk.then("inherit(2, 9)").answers("inherit(3, 2)", 1);
    }

    private static void promise10WhatWouldBreakItForAnyUserIsRefused() {
        for (int u = 0; u <= LAST_USER; u++) {
            desk(6, 2, "addSet(0, 3, 2)").then(each("assign(#, 0)", u))
                    .illegalState("inherit(0, 1)");
            desk(6, 2, "addSet(0, 3, 2)").then(each("assign(#, 1)", u))
                    .illegalState("inherit(1, 0)");
            desk(6, 2, "addSet(0, 3, 2)").then(each("assign(#, 1)", u)).answers("inherit(0, 1)", 1);
        }
    }

    // ------------------------------------------------------------------ Promise 11: disinherit

    private static void promise11BothRolesMustBeThere() {
        roleMustBeThere("disinherit(#, 1)");
        roleMustBeThere("disinherit(1, #)");
        roleMustBeThere("disinherit(#, #)");
    }

    private static void promise11AnswersHowManyFrom8To0() {
        Desk desk = roleOfAllRoles();
        for (int q = 1; q <= LAST_ROLE; q++) {
            desk.answers("disinherit(0, " + q + ")", 9 - q);
            desk = desk.then("disinherit(0, " + q + ")");
            desk.answers("juniors(0)", 1 + (ALL_ROLES & ~((2 << q) - 1)));
        }
        desk.isAsAfter(desk(1, 10));
    }

    private static void promise11WhatDoesNotInheritItIsRefused() {
        desk(0, 10).illegalState("disinherit(0, 0)", "disinherit(9, 9)", "disinherit(0, 9)");
        desk(0, 10, "inherit(0, 9)").illegalState("disinherit(9, 0)", "disinherit(0, 0)");
        desk(0, 10, "inherit(0, 9)", "disinherit(0, 9)").illegalState("disinherit(0, 9)");
    }

    private static void promise11WhatIsOnlySeniorIsRefused() {
        chainDown().illegalState(each("disinherit(0, #)", range(2, 9)));
        chainDown().illegalState("disinherit(0, 0)");
    }

    private static void promise11AnotherWayDownStays() {
        Desk desk = chainDown().then("inherit(0, 9)");
        desk.then("disinherit(0, 9)").isAsAfter(chainDown());
        desk.then("disinherit(0, 1)").answers("juniors(0)", 1 + 512);
    }

    // ------------------------------------------------------------------ Promise 12: addSet

    private static void promise12ABitThatIsNoRolesNumberIsNotThere() {
        everyBitMustBeARole("addSet(0, #, 2)");
        everyBitMustBeARole("addSet(1, #, 2)");
        desk(0, 10).noSuchElement(each("addSet(0, #, 2)", 1024, 1027, MIN, MIN + 3, -1));
    }

    private static void promise12TheKindIs0Or1() {
        desk(1, 2).answers("addSet(0, 3, 2)", 0);
        desk(1, 2).answers("addSet(1, 3, 2)", 0);
        desk(1, 2).illegalArgument(each("addSet(#, 3, 2)", outside(1)));
        desk(1, 2, "addSet(0, 3, 2)").answers("there(3)", 1);
        desk(1, 2, "addSet(0, 3, 2)").answers("there(4)", 0);
        desk(1, 2, "addSet(1, 3, 2)").answers("there(3)", 0);
        desk(1, 2, "addSet(1, 3, 2)").answers("there(4)", 1);
    }

    private static void promise12NIs2AtLeast() {
        for (int kind = 0; kind <= 1; kind++) {
            desk(1, 10).answers("addSet(" + kind + ", 1023, 2)", 0);
            desk(1, 10).illegalArgument(each("addSet(" + kind + ", 1023, #)", 1, 0, -1, -2, MIN,
                    MIN + 2));
        }
    }

    private static void promise12NIsAtMostTheRolesTold() {
        for (int n = 2; n <= 10; n++) {
            int roles = (1 << n) - 1;
            desk(1, 10).answers("addSet(0, " + roles + ", " + n + ")", 0);
            desk(1, 10).answers("addSet(1, " + roles + ", " + n + ")", 0);
            desk(1, 10).illegalArgument("addSet(0, " + roles + ", " + (n + 1) + ")",
                    "addSet(1, " + roles + ", " + (n + 1) + ")",
                    "addSet(0, " + roles + ", " + MAX + ")");
        }
    }

    private static void promise12NoneOrOneRoleIsTooFew() {
        desk(1, 10).illegalArgument(each("addSet(0, 0, #)", MIN, -1, 0, 1, 2, 3, MAX));
        desk(1, 10).illegalArgument(each("addSet(1, 512, #)", MIN, -1, 0, 1, 2, 3, MAX));
        desk(0, 0).illegalArgument("addSet(0, 0, 2)", "addSet(1, 0, 0)");
    }

    private static void promise12AnswersItsNumberFrom0To3() {
        for (int k = 0; k <= LAST_SET; k++) {
            desk(1, 2).then(times(k, "addSet(0, 3, 2)")).answers("addSet(0, 3, 2)", k);
            desk(1, 2).then(times(k, "addSet(0, 3, 2)")).answers("addSet(1, 3, 2)", k);
            Desk desk = desk(1, 10).then(times(k, "addSet(0, 3, 2)")).then("addSet(1, 1008, 3)");
            desk.hasSet(k, "1:1008:3");
        }
    }

    private static void promise12FullIsRefused() {
        desk(1, 2).then(times(4, "addSet(0, 3, 2)"))
                .illegalState("addSet(0, 3, 2)", "addSet(1, 3, 2)");
        desk(1, 2).then(times(4, "addSet(1, 3, 2)"))
                .illegalState("addSet(0, 3, 2)", "addSet(1, 3, 2)");
        fullDesk().illegalState("addSet(0, 6, 2)", "addSet(1, 6, 2)");
        for (int k = 0; k <= LAST_SET; k++) {
            Desk desk = desk(1, 2).then(times(4, "addSet(1, 3, 2)")).then(each("deleteSet(#)", k));
            desk.answers("addSet(0, 3, 2)", k);
        }
    }

    private static void promise12AStaticSetThatWouldBeBrokenIsRefused() {
        Desk desk = desk(6, 10, "inherit(0, 9)", "assign(5, 0)", "assign(5, 4)");
        desk.illegalState("addSet(0, 513, 2)", "addSet(0, 17, 2)", "addSet(0, 530, 2)",
                "addSet(0, 529, 3)", "addSet(0, 1023, 3)");
        desk.answers("addSet(0, 1023, 4)", 0);
        desk.answers("addSet(0, 15, 2)", 0);
        desk.answers("addSet(1, 529, 2)", 0);
    }

    private static void promise12ADynamicSetThatWouldBeBrokenIsRefused() {
        Desk desk = desk(6, 10).then(each("assign(5, #)", range(0, 9))).then(times(5, "open(0, 0)"))
                .then("open(5, 529)");
        desk.illegalState("addSet(1, 513, 2)", "addSet(1, 17, 2)", "addSet(1, 529, 3)",
                "addSet(1, 1023, 3)");
        desk.answers("addSet(1, 1023, 4)", 0);
        desk.answers("addSet(1, 15, 2)", 0);
        desk.then("close(5)").answers("addSet(1, 529, 2)", 0);
        desk.then("deactivate(5, 9)").answers("addSet(1, 529, 3)", 0);
    }

    // ------------------------------------------------------------------ Promise 13: deleteSet

    private static void promise13TheSetMustBeThere() {
        setMustBeThere("deleteSet(#)");
        fullDesk().then("deleteSet(3)").noSuchElement("deleteSet(3)");
    }

    private static void promise13AnswersHowManyFrom3To0() {
        for (int k = 0; k <= LAST_SET; k++) {
            fullDesk().answers("deleteSet(" + k + ")", 3);
        }
        fullDesk().then("deleteSet(0)").answers("deleteSet(3)", 2);
        fullDesk().then("deleteSet(0)", "deleteSet(3)").answers("deleteSet(1)", 1);
        fullDesk().then("deleteSet(0)", "deleteSet(3)", "deleteSet(1)").answers("deleteSet(2)", 0);
    }

    private static void promise13BothKindsAreCounted() {
        Desk desk = desk(1, 2, "addSet(0, 3, 2)", "addSet(1, 3, 2)", "addSet(1, 3, 2)");
        desk.answers("deleteSet(0)", 2);
        desk.answers("deleteSet(1)", 2);
    }

    private static void promise13ASetThatWentKeepsNothingApart() {
        fullDesk().illegalState("assign(5, 0)", "activate(5, 8)");
        fullDesk().then("deleteSet(2)").answers("assign(5, 0)", 2);
        fullDesk().then("deleteSet(3)").answers("activate(5, 8)", 2);
        fullDesk().then("deleteSet(3)").illegalState("assign(5, 0)");
        fullDesk().then("deleteSet(0)").answers("deleteRole(1)", 0);
    }

    // ------------------------------------------------------------------ Promise 14: changeSet

    private static void promise14TheSetMustBeThere() {
        setMustBeThere("changeSet(#, 6, 2)");
    }

    private static void promise14ABitThatIsNoRolesNumberIsNotThere() {
        everyBitMustBeARole("changeSet(1, #, 2)");
        desk(1, 10, "addSet(0, 3, 2)")
                .noSuchElement(each("changeSet(0, #, 2)", 1024, 1027, MIN, -1));
    }

    private static void promise14NIs2AtLeast() {
        for (int kind = 0; kind <= 1; kind++) {
            Desk desk = desk(1, 10, each("addSet(#, 15, 3)", kind));
            desk.answers("changeSet(0, 1023, 2)", 10);
            desk.illegalArgument(each("changeSet(0, 1023, #)", 1, 0, -1, MIN, MIN + 2));
        }
    }

    private static void promise14NIsAtMostTheRolesTold() {
        Desk desk = desk(1, 10, "addSet(0, 15, 3)");
        for (int n = 2; n <= 10; n++) {
            int roles = (1 << n) - 1;
            desk.answers("changeSet(0, " + roles + ", " + n + ")", n);
            desk.illegalArgument("changeSet(0, " + roles + ", " + (n + 1) + ")",
                    "changeSet(0, " + roles + ", " + MAX + ")");
        }
    }

    private static void promise14NoneOrOneRoleIsTooFew() {
        Desk desk = desk(1, 10, "addSet(1, 15, 3)");
        desk.illegalArgument(each("changeSet(0, 0, #)", MIN, -1, 0, 1, 2, 3, MAX));
        desk.illegalArgument(each("changeSet(0, 512, #)", MIN, -1, 0, 1, 2, 3, MAX));
    }

    private static void promise14AnswersHowManyRolesFrom2To10() {
        for (int roles = 2; roles <= 10; roles++) {
            int told = ALL_ROLES & ~((1 << 10 - roles) - 1);
            desk(1, 10, "addSet(1, 3, 2)").answers("changeSet(0, " + told + ", 2)", roles);
            desk(1, 10, "addSet(1, 3, 2)", "changeSet(0, " + told + ", 2)")
                    .hasSet(0, "1:" + told + ":2");
        }
    }

    private static void promise14RolesAndNumberAreTheNewOnes() {
        Desk desk = desk(1, 10, "addSet(0, 15, 3)", "addSet(1, 15, 3)");
        desk.then("changeSet(0, 1008, 5)").hasSet(0, "0:1008:5");
        desk.then("changeSet(0, 1008, 5)").hasSet(1, "1:15:3");
        desk.then("changeSet(1, 1008, 5)").hasSet(1, "1:1008:5");
        desk.then("changeSet(1, 1008, 5)").hasSet(0, "0:15:3");
        desk.then("changeSet(1, 15, 3)").isAsAfter(desk);
    }

    private static void promise14FullIsNoHindrance() {
        for (int k = 0; k <= LAST_SET; k++) {
            fullDesk().answers("changeSet(" + k + ", 14, 3)", 3);
        }
    }

    private static void promise14AStaticSetThatWouldBeBrokenIsRefused() {
        Desk desk = desk(6, 10, "addSet(0, 6, 2)", "inherit(0, 9)", "assign(5, 0)", "assign(5, 4)");
        desk.illegalState("changeSet(0, 513, 2)", "changeSet(0, 529, 3)", "changeSet(0, 1023, 3)");
        desk.answers("changeSet(0, 1023, 4)", 10);
        desk.answers("changeSet(0, 15, 2)", 4);
        Desk open = desk(1, 2, "assign(0, 0)", "assign(0, 1)", "open(0, 0)", "addSet(1, 3, 2)");
        open.answers("changeSet(0, 3, 2)", 2);
    }

    private static void promise14ADynamicSetThatWouldBeBrokenIsRefused() {
        Desk desk = desk(6, 10).then(each("assign(5, #)", range(0, 9))).then(times(5, "open(0, 0)"))
                .then("open(5, 529)", "addSet(1, 6, 2)");
        desk.illegalState("changeSet(0, 513, 2)", "changeSet(0, 529, 3)", "changeSet(0, 1023, 3)");
        desk.answers("changeSet(0, 1023, 4)", 10);
        desk.answers("changeSet(0, 15, 2)", 4);
    }

    private static void promise14TheNewNumberCountsWhenARoleGoes() {
        Desk desk = desk(1, 4, "addSet(0, 15, 4)");
        desk.then("changeSet(0, 15, 3)").answers("deleteRole(3)", 0);
        desk.then("changeSet(0, 7, 3)").answers("deleteRole(3)", 0);
        desk.then("changeSet(0, 7, 3)").answers("deleteRole(2)", 1);
    }

    // ------------------------------------------------------------------ Promise 15: open

    private static void promise15TheUserMustBeThere() {
        userMustBeThere("open(#, 0)");
    }

    private static void promise15ABitThatIsNoRolesNumberIsNotThere() {
        everyBitMustBeARole("open(1, #)");
        Desk desk = userOfAllRoles(1);
        desk.noSuchElement(each("open(0, #)", 1024, 2047, 1 << 30, MIN, MIN + 1, -1, MAX));
    }

    private static void promise15NoRolesMay() {
        desk(1, 0).answers("open(0, 0)", 0);
        desk(1, 10).answers("open(0, 0)", 0);
        desk(1, 10, "open(0, 0)").answers("active(0)", 0);
    }

    private static void promise15AllRolesMay() {
        Desk desk = userOfAllRoles(1);
        desk.answers("open(0, 1023)", 0);
        desk.then("open(0, 1023)").answers("active(0)", ALL_ROLES);
        chainDown().then("assign(0, 0)", "open(0, 1023)").answers("active(0)", ALL_ROLES);
    }

    private static void promise15AnswersItsNumberFrom0To5() {
        for (int s = 0; s <= LAST_SESSION; s++) {
            Desk desk = desk(6, 1, "assign(5, 0)").then(times(s, "open(0, 0)"));
            desk.answers("open(5, 1)", s);
            desk.then("open(5, 1)").answers("sessionsOf(5)", 1 << s);
            desk.then("open(5, 1)").answers("active(" + s + ")", 1);
        }
    }

    private static void promise15NotAuthorisedForOneOfThemIsRefused() {
        for (int r = 0; r <= LAST_ROLE; r++) {
            Desk desk = userOfAllRoles(2).then("deassign(0, " + r + ")");
            desk.illegalState("open(0, 1023)", "open(0, " + (1 << r) + ")",
                    "open(1, " + (1 << r) + ")");
            desk.answers("open(0, " + (ALL_ROLES - (1 << r)) + ")", 0);
        }
        chainDown().then("assign(0, 5)").illegalState("open(0, 16)", "open(0, 1)", "open(0, 48)");
        chainDown().then("assign(0, 5)").answers("open(0, 544)", 0);
    }

    private static void promise15FullIsRefused() {
        Desk desk = desk(6, 1, "assign(0, 0)").then(each("open(#, 0)", range(0, 5)));
        desk.illegalState("open(0, 0)", "open(0, 1)", "open(5, 0)");
        for (int s = 0; s <= LAST_SESSION; s++) {
            desk.then("close(" + s + ")").answers("open(0, 1)", s);
            desk.then("deleteUser(" + s + ")").answers("open(" + (s + 1) % 6 + ", 0)", s);
        }
    }

    private static void promise15WhatWouldBreakASetIsRefused() {
        Desk desk = userOfAllRoles(1).then("addSet(1, 519, 3)");
        desk.answers("open(0, 513)", 0);
        desk.answers("open(0, 1016)", 0);
        desk.answers("open(0, 507)", 0);
        desk.illegalState("open(0, 515)", "open(0, 7)", "open(0, 519)", "open(0, 1023)");
    }

    private static void promise15AStaticSetIsNoHindrance() {
        chainDown().then("assign(0, 1)", "addSet(0, 513, 2)").answers("open(0, 1022)", 0);
    }

    // ------------------------------------------------------------------ Promise 16: close

    private static void promise16TheSessionMustBeThere() {
        sessionMustBeThere("close(#)");
        fullDesk().then("close(5)").noSuchElement("close(5)");
    }

    private static void promise16AnswersHowManyFrom5To0() {
        Desk desk = fullDesk();
        for (int s = 0; s <= LAST_SESSION; s++) {
            fullDesk().answers("close(" + s + ")", 5);
            desk.answers("close(" + s + ")", 5 - s);
            desk = desk.then("close(" + s + ")");
            desk.answers("there(2)", ALL_SESSIONS & ~((2 << s) - 1));
        }
    }

    private static void promise16WhatHasEndedBreaksNoSet() {
        Desk desk = desk(1, 2, "assign(0, 0)", "assign(0, 1)", "open(0, 3)");
        desk.illegalState("addSet(1, 3, 2)");
        desk.then("close(0)").answers("addSet(1, 3, 2)", 0);
    }

    private static void promise16OnlyTheSessionGoes() {
        Desk desk = desk(1, 2, "assign(0, 0)", "open(0, 1)");
        desk.then("open(0, 1)", "close(1)").isAsAfter(desk);
        desk.then("close(0)").isAsAfter(desk(1, 2, "assign(0, 0)"));
    }

    // ------------------------------------------------------------------ Promise 17: activate

    private static void promise17SessionAndRoleMustBeThere() {
        sessionMustBeThere("activate(#, 1)");
        roleMustBeThere("activate(1, #)");
    }

    private static void promise17AnswersHowManyFrom1To10() {
        Desk all = userOfAllRoles(1).then(times(6, "open(0, 0)"));
        for (int r = 0; r <= LAST_ROLE; r++) {
            Desk desk = all.then(each("activate(5, #)", range(0, r - 1)));
            desk.answers("activate(5, " + r + ")", r + 1);
            desk.then("activate(5, " + r + ")").answers("active(5)", (2 << r) - 1);
            desk.answers("activate(0, " + r + ")", 1);
        }
    }

    private static void promise17WhatIsActiveIsRefused() {
        Desk desk = userOfAllRoles(1).then("open(0, 1023)");
        desk.illegalState(each("activate(0, #)", range(0, 9)));
    }

    private static void promise17WhatTheUserIsNotAuthorisedForIsRefused() {
        Desk desk = chainDown().then("addUser()", "assign(0, 5)", "assign(1, 0)", "open(0, 0)",
                "open(1, 0)");
        desk.illegalState(each("activate(0, #)", range(0, 4)));
        for (int r = 5; r <= LAST_ROLE; r++) {
            desk.answers("activate(0, " + r + ")", 1);
        }
        desk.answers("activate(1, 0)", 1);
        desk.then("deassign(1, 0)").illegalState(each("activate(1, #)", range(0, 9)));
    }

    private static void promise17WhatWouldBreakASetIsRefused() {
        Desk desk = userOfAllRoles(1).then("addSet(1, 519, 3)", "open(0, 512)");
        desk.answers("activate(0, 0)", 2);
        desk.then("activate(0, 0)").illegalState("activate(0, 1)", "activate(0, 2)");
        desk.then("activate(0, 0)").answers("activate(0, 3)", 3);
        desk.then("activate(0, 0)", "deactivate(0, 9)").answers("activate(0, 1)", 2);
    }

    // ------------------------------------------------------------------ Promise 18: deactivate

    private static void promise18SessionAndRoleMustBeThere() {
        sessionMustBeThere("deactivate(#, 1)");
        roleMustBeThere("deactivate(1, #)");
    }

    private static void promise18AnswersHowManyFrom9To0() {
        Desk desk = userOfAllRoles(1).then("open(0, 1023)");
        for (int r = 0; r <= LAST_ROLE; r++) {
            desk.answers("deactivate(0, " + r + ")", 9 - r);
            desk = desk.then("deactivate(0, " + r + ")");
            desk.answers("active(0)", ALL_ROLES & ~((2 << r) - 1));
        }
        desk.answers("sessionsOf(0)", 1);
    }

    private static void promise18WhatIsNotActiveIsRefused() {
        Desk desk = userOfAllRoles(1).then("open(0, 0)");
        desk.illegalState(each("deactivate(0, #)", range(0, 9)));
        desk.then("open(0, 1)").illegalState("deactivate(0, 0)");
        desk.then("activate(0, 0)", "deactivate(0, 0)").illegalState("deactivate(0, 0)");
    }

    private static void promise18WhatIsOnlyJuniorToAnActiveRoleIsRefused() {
        chainDown().then("assign(0, 0)", "open(0, 1)")
                .illegalState(each("deactivate(0, #)", range(1, 9)));
    }

    private static void promise18JuniorsStayActive() {
        chainDown().then("assign(0, 0)", "open(0, 1023)", "deactivate(0, 0)")
                .answers("active(0)", 1022);
    }

    // ------------------------------------------------------------------ Promise 19: check

    private static void promise19SessionAndPermissionMustBeThere() {
        sessionMustBeThere("check(#, 0)");
        permissionMustBeThere("check(1, #)");
        desk(1, 0, "open(0, 0)").noSuchElement("check(1, 16)", "check(0, 16)", "check(0, -1)");
    }

    private static void promise19NoActiveRoleHasNothing() {
        Desk desk = desk(1, 1).then(each("grant(0, #)", range(0, 15)))
                .then("assign(0, 0)", "open(0, 0)");
        for (String call : each("check(0, #)", range(0, 15))) {
            desk.answers(call, false);
            desk.then("activate(0, 0)").answers(call, true);
        }
    }

    private static void promise19EachPermissionAlone() {
        for (int p = 0; p <= LAST_PERMISSION; p++) {
            Desk desk = desk(1, 1, "grant(0, " + p + ")", "assign(0, 0)", "open(0, 1)");
            for (int other = 0; other <= LAST_PERMISSION; other++) {
                desk.answers("check(0, " + other + ")", other == p);
            }
        }
    }

    private static void promise19OfAJuniorNotOfASenior() {
        Desk desk = chainDown().then("grant(0, 0)", "assign(0, 0)", "open(0, 1)", "open(0, 2)",
                "open(0, 512)");
        desk.answers("check(0, 0)", true);
        desk.answers("check(0, 15)", true);
        desk.answers("check(1, 0)", false);
        desk.answers("check(1, 15)", true);
        desk.answers("check(2, 15)", true);
    }

    // ------------------------------------------------------------------ Promises 20 to 26

    private static void promise20TheUserMustBeThere() {
        userMustBeThere("rolesOf(#, false)");
        userMustBeThere("rolesOf(#, true)");
    }

    private static void promise20NoneAndAll() {
        desk(1, 10).answers("rolesOf(0, false)", 0);
        desk(1, 10).answers("rolesOf(0, true)", 0);
        Desk all = userOfAllRoles(2);
        all.answers("rolesOf(0, false)", ALL_ROLES);
        all.answers("rolesOf(0, true)", ALL_ROLES);
        all.answers("rolesOf(1, true)", 0);
    }

    private static void promise20AssignedOrAuthorised() {
        chainDown().then("assign(0, 0)").answers("rolesOf(0, false)", 1);
        chainDown().then("assign(0, 0)").answers("rolesOf(0, true)", ALL_ROLES);
        chainUp().then("assign(0, 9)").answers("rolesOf(0, false)", 512);
        chainUp().then("assign(0, 9)").answers("rolesOf(0, true)", ALL_ROLES);
    }

    private static void promise21TheRoleMustBeThere() {
        roleMustBeThere("usersOf(#, false)");
        roleMustBeThere("usersOf(#, true)");
    }

    private static void promise21NoneAndAll() {
        desk(6, 10).answers("usersOf(9, false)", 0);
        desk(6, 10).answers("usersOf(9, true)", 0);
        Desk all = desk(6, 10).then(each("assign(#, 9)", range(0, 5)));
        all.answers("usersOf(9, false)", ALL_USERS);
        all.answers("usersOf(9, true)", ALL_USERS);
        all.answers("usersOf(0, true)", 0);
        desk(0, 1).answers("usersOf(0, true)", 0);
    }

    private static void promise21AssignedOrAuthorised() {
        Desk desk = desk(6, 10, "inherit(0, 9)").then(each("assign(#, 0)", range(0, 4)))
                .then("assign(5, 9)");
        desk.answers("usersOf(9, false)", 32);
        desk.answers("usersOf(9, true)", ALL_USERS);
        desk.answers("usersOf(0, false)", 31);
        desk.answers("usersOf(0, true)", 31);
    }

    private static void promise22TheRoleMustBeThere() {
        roleMustBeThere("permissions(#, false)");
        roleMustBeThere("permissions(#, true)");
    }

    private static void promise22NoneAndAll() {
        desk(0, 10).answers("permissions(9, false)", 0);
        desk(0, 10).answers("permissions(9, true)", 0);
        Desk all = desk(0, 10).then(each("grant(9, #)", range(0, 15)));
        all.answers("permissions(9, false)", ALL_PERMISSIONS);
        all.answers("permissions(9, true)", ALL_PERMISSIONS);
        all.answers("permissions(0, true)", 0);
    }

    private static void promise22GrantedOrHad() {
        Desk all = desk(0, 10).then(each("grant(9, #)", range(0, 15)))
                .then("inherit(8, 9)", "inherit(0, 8)");
        all.answers("permissions(0, false)", 0);
        all.answers("permissions(0, true)", ALL_PERMISSIONS);
        chainDown().then("grant(0, 0)").answers("permissions(0, true)", 1 + (1 << 15));
        chainDown().then("grant(0, 0)").answers("permissions(9, true)", 1 << 15);
    }

    private static void promise23TheRoleMustBeThere() {
        roleMustBeThere("juniors(#)");
    }

    private static void promise23ItselfAndAll() {
        for (int r = 0; r <= LAST_ROLE; r++) {
            desk(0, 10).answers("juniors(" + r + ")", 1 << r);
            chainDown().answers("juniors(" + r + ")", ALL_ROLES & -(1 << r));
            chainUp().answers("juniors(" + r + ")", (2 << r) - 1);
        }
        desk(0, 10).then(each("inherit(9, #)", range(0, 8))).answers("juniors(9)", ALL_ROLES);
    }

    private static void promise24TheSessionMustBeThere() {
        sessionMustBeThere("active(#)");
    }

    private static void promise24NoneAndAll() {
        Desk desk = userOfAllRoles(1).then("open(0, 0)", "open(0, 1023)");
        desk.answers("active(0)", 0);
        desk.answers("active(1)", ALL_ROLES);
    }

    private static void promise25TheUserMustBeThere() {
        userMustBeThere("sessionsOf(#)");
    }

    private static void promise25NoneAndAll() {
        desk(1, 0).answers("sessionsOf(0)", 0);
        desk(2, 0).then(times(6, "open(1, 0)")).answers("sessionsOf(0)", 0);
        desk(2, 0).then(times(6, "open(1, 0)")).answers("sessionsOf(1)", ALL_SESSIONS);
        desk(2, 0).then(times(6, "open(0, 0)")).answers("sessionsOf(0)", ALL_SESSIONS);
        desk(2, 0).then(times(6, "open(0, 0)")).answers("sessionsOf(1)", 0);
    }

    private static void promise25ASessionThatEndedIsNoMoreTheirs() {
        desk(1, 0).then(times(6, "open(0, 0)")).then("close(5)").answers("sessionsOf(0)", 31);
        desk(1, 0).then(times(6, "open(0, 0)")).then("close(0)").answers("sessionsOf(0)", 62);
        desk(2, 0, "open(0, 0)", "close(0)", "open(1, 0)").answers("sessionsOf(0)", 0);
    }

    private static void promise26WhatIs0To4() {
        fullDesk().answers("there(0)", ALL_USERS);
        fullDesk().answers("there(1)", ALL_ROLES);
        fullDesk().answers("there(2)", ALL_SESSIONS);
        fullDesk().answers("there(3)", 5);
        fullDesk().answers("there(4)", 10);
    }

    private static void promise26AnyOtherNumberIs0() {
        for (String call : each("there(#)", outside(4))) {
            fullDesk().answers(call, 0);
        }
    }

    private static void promise26NoneAndAllOfTheSets() {
        desk(0, 2).answers("there(3)", 0);
        desk(0, 2).answers("there(4)", 0);
        desk(0, 2).then(times(4, "addSet(0, 3, 2)")).answers("there(3)", ALL_SETS);
        desk(0, 2).then(times(4, "addSet(0, 3, 2)")).answers("there(4)", 0);
        desk(0, 2).then(times(4, "addSet(1, 3, 2)")).answers("there(3)", 0);
        desk(0, 2).then(times(4, "addSet(1, 3, 2)")).answers("there(4)", ALL_SETS);
    }

    // ------------------------------------------------------------------ the tests, one by one

    private static boolean isTest(Method method) {
        return method.getName().matches("(promise[0-9]{2}|term|whatItIs)[A-Z0-9].*");
    }

    private static void run(Method method) {
        test = method.getName();
        int before = checks;
        try {
            method.invoke(null);
        } catch (InvocationTargetException e) {
            fail("ended with " + e.getCause());
        } catch (IllegalAccessException e) {
            fail("can't be run");
        }
        if (checks == before) {
            fail("checked nothing");
        }
    }

    public static void main(String[] args) {
        Method[] tests = Arrays.stream(BoundaryTest.class.getDeclaredMethods())
                .filter(BoundaryTest::isTest)
                .sorted(Comparator.comparing(Method::getName)).toArray(Method[]::new);
        for (Method method : tests) {
            run(method);
        }
        System.out.println(tests.length + " tests, " + checks + " checks, " + wrong + " wrong");
        if (wrong != 0) {
            System.exit(1);
        }
    }
}
