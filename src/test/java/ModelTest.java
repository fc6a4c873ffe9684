import java.util.ArrayList;
import java.util.HashMap;
import java.util.List;
import java.util.Map;
import java.util.NoSuchElementException;
import java.util.Random;
import java.util.Set;
import java.util.TreeMap;
import java.util.TreeSet;

/**
 * Long runs of calls, each answer compared with a second telling of the document that goes another
 * way: it tries every change on a copy and refuses it when the copy breaks a rule of the Terms.
 */
public final class ModelTest {
    private static final int RUNS = 3000;
    private static final int CALLS = 512;

    private static final String[] NAMES = {
        "addUser", "deleteUser", "addRole", "deleteRole", "assign", "deassign", "grant", "revoke",
        "inherit", "disinherit", "addSet", "deleteSet", "changeSet", "open", "close", "activate",
        "deactivate", "check", "rolesOf", "usersOf", "permissions", "juniors", "active",
        "sessionsOf", "there"};

    /** How often each call comes; rare where it would sweep the desk empty. */
    private static final int[] WEIGHTS = {
        4, 2, 4, 2, 16, 4, 6, 3,
        14, 4, 8, 2, 6, 10, 3, 14,
        4, 6, 5, 5, 5, 4, 8,
        4, 6};

    private static final class Separation {
        int kind;
        Set<Integer> roles = new TreeSet<>();
        int n;
    }

    private static final class Meeting {
        int user;
        Set<Integer> active = new TreeSet<>();
    }

    private static final class Model {
        boolean limited;
        Map<Integer, Set<Integer>> users = new TreeMap<>();
        Map<Integer, Set<Integer>> grants = new TreeMap<>();
        Map<Integer, Set<Integer>> inherits = new TreeMap<>();
        Map<Integer, Meeting> sessions = new TreeMap<>();
        Map<Integer, Separation> sets = new TreeMap<>();

        Model(int users, int roles, int mode) {
            for (int u = 0; u < users && u < 6; u++) {
                this.users.put(u, new TreeSet<>());
            }
            for (int r = 0; r < roles && r < 10; r++) {
                newRole(r);
            }
            limited = mode == 1;
        }

        Model(Model old) {
            limited = old.limited;
            old.users.forEach((u, roles) -> users.put(u, new TreeSet<>(roles)));
            old.grants.forEach((r, granted) -> grants.put(r, new TreeSet<>(granted)));
            old.inherits.forEach((r, below) -> inherits.put(r, new TreeSet<>(below)));
            old.sessions.forEach((s, meeting) -> {
                Meeting copy = new Meeting();
                copy.user = meeting.user;
                copy.active.addAll(meeting.active);
                sessions.put(s, copy);
            });
            old.sets.forEach((k, set) -> {
                Separation copy = new Separation();
                copy.kind = set.kind;
                copy.n = set.n;
                copy.roles.addAll(set.roles);
                sets.put(k, copy);
            });
        }

        void newRole(int r) {
            grants.put(r, new TreeSet<>());
            inherits.put(r, new TreeSet<>());
        }

        boolean senior(int r, int q) {
            if (r == q) {
                return true;
            }
            for (int below : inherits.get(r)) {
                if (senior(below, q)) {
                    return true;
                }
            }
            return false;
        }

        boolean authorised(int u, int r) {
            return users.get(u).stream().anyMatch(own -> senior(own, r));
        }

        boolean has(int r, int p) {
            return grants.keySet().stream().anyMatch(q -> senior(r, q) && grants.get(q).contains(p));
        }

        boolean broken(Separation set) {
            if (set.kind == 0) {
                return users.keySet().stream().anyMatch(
                        u -> set.roles.stream().filter(r -> authorised(u, r)).count() >= set.n);
            }
            return sessions.values().stream().anyMatch(
                    m -> set.roles.stream().filter(m.active::contains).count() >= set.n);
        }

        boolean anyBroken() {
            return sets.values().stream().anyMatch(this::broken);
        }

        void dropUnauthorised() {
            for (Meeting meeting : sessions.values()) {
                meeting.active.removeIf(
                        r -> !inherits.containsKey(r) || !authorised(meeting.user, r));
            }
        }
    }

    private static int told(Set<Integer> numbers) {
        int sum = 0;
        for (int number : numbers) {
            sum += 1 << number;
        }
        return sum;
    }

    private static Set<Integer> numbers(int told) {
        Set<Integer> found = new TreeSet<>();
        for (int i = 0; i < 32; i++) {
            if ((told & 1 << i) != 0) {
                found.add(i);
            }
        }
        return found;
    }

    private static int free(Map<Integer, ?> taken, int limit) {
        for (int i = 0; i < limit; i++) {
            if (!taken.containsKey(i)) {
                return i;
            }
        }
        throw new IllegalStateException();
    }

    private static void named(Map<Integer, ?> there, int number) {
        if (!there.containsKey(number)) {
            throw new NoSuchElementException();
        }
    }

    private static void permission(int p) {
        if (p < 0 || p > 15) {
            throw new NoSuchElementException();
        }
    }

    private static void state(boolean fine) {
        if (!fine) {
            throw new IllegalStateException();
        }
    }

    private static void bounds(boolean fine) {
        if (!fine) {
            throw new IllegalArgumentException();
        }
    }

    /** Changes m, which is a copy that is thrown away when this throws. */
    private static int modelAnswer(Model m, String name, int a, int b, int c) {
        switch (name) {
            case "addUser": {
                int u = free(m.users, 6);
                m.users.put(u, new TreeSet<>());
                return u;
            }
            case "deleteUser": {
                named(m.users, a);
                m.users.remove(a);
                int before = m.sessions.size();
                m.sessions.values().removeIf(meeting -> meeting.user == a);
                return before - m.sessions.size();
            }
            case "addRole": {
                int r = free(m.inherits, 10);
                m.newRole(r);
                return r;
            }
            case "deleteRole": {
                named(m.inherits, a);
                m.inherits.remove(a);
                m.grants.remove(a);
                m.users.values().forEach(roles -> roles.remove(a));
                m.inherits.values().forEach(below -> below.remove(a));
                m.dropUnauthorised();
                m.sets.values().forEach(set -> set.roles.remove(a));
                int before = m.sets.size();
                m.sets.values().removeIf(set -> set.roles.size() < set.n);
                return before - m.sets.size();
            }
            case "assign":
                named(m.users, a);
                named(m.inherits, b);
                state(m.users.get(a).add(b));
                state(!m.anyBroken());
                return m.users.get(a).size();
            case "deassign":
                named(m.users, a);
                named(m.inherits, b);
                state(m.users.get(a).remove(b));
                m.dropUnauthorised();
                return m.users.get(a).size();
            case "grant":
                named(m.grants, a);
                permission(b);
                state(m.grants.get(a).add(b));
                return m.grants.get(a).size();
            case "revoke":
                named(m.grants, a);
                permission(b);
                state(m.grants.get(a).remove(b));
                return m.grants.get(a).size();
            case "inherit":
                named(m.inherits, a);
                named(m.inherits, b);
                state(!m.senior(b, a));
                state(m.inherits.get(a).add(b));
                state(!m.limited || m.inherits.get(a).size() == 1);
                state(!m.anyBroken());
                return m.inherits.get(a).size();
            case "disinherit":
                named(m.inherits, a);
                named(m.inherits, b);
                state(m.inherits.get(a).remove(b));
                m.dropUnauthorised();
                return m.inherits.get(a).size();
            default:
                return modelAnswerOfSetsAndSessions(m, name, a, b, c);
        }
    }

    private static int modelAnswerOfSetsAndSessions(Model m, String name, int a, int b, int c) {
        switch (name) {
            case "addSet": {
                numbers(b).forEach(r -> named(m.inherits, r));
                bounds(a == 0 || a == 1);
                bounds(c >= 2 && c <= numbers(b).size());
                Separation set = new Separation();
                set.kind = a;
                set.roles = numbers(b);
                set.n = c;
                int k = free(m.sets, 4);
                m.sets.put(k, set);
                state(!m.anyBroken());
                return k;
            }
            case "deleteSet":
                named(m.sets, a);
                m.sets.remove(a);
                return m.sets.size();
            case "changeSet":
                named(m.sets, a);
                numbers(b).forEach(r -> named(m.inherits, r));
                bounds(c >= 2 && c <= numbers(b).size());
                m.sets.get(a).roles = numbers(b);
                m.sets.get(a).n = c;
                state(!m.anyBroken());
                return m.sets.get(a).roles.size();
            case "open": {
                named(m.users, a);
                numbers(b).forEach(r -> named(m.inherits, r));
                numbers(b).forEach(r -> state(m.authorised(a, r)));
                Meeting meeting = new Meeting();
                meeting.user = a;
                meeting.active = numbers(b);
                int s = free(m.sessions, 6);
                m.sessions.put(s, meeting);
                state(!m.anyBroken());
                return s;
            }
            case "close":
                named(m.sessions, a);
                m.sessions.remove(a);
                return m.sessions.size();
            case "activate":
                named(m.sessions, a);
                named(m.inherits, b);
                state(m.authorised(m.sessions.get(a).user, b));
                state(m.sessions.get(a).active.add(b));
                state(!m.anyBroken());
                return m.sessions.get(a).active.size();
            case "deactivate":
                named(m.sessions, a);
                named(m.inherits, b);
                state(m.sessions.get(a).active.remove(b));
                return m.sessions.get(a).active.size();
            default:
                return modelAnswerWithoutChange(m, name, a, b);
        }
    }

    private static int modelAnswerWithoutChange(Model m, String name, int a, int b) {
        Set<Integer> found = new TreeSet<>();
        switch (name) {
            case "check":
                named(m.sessions, a);
                permission(b);
                return m.sessions.get(a).active.stream().anyMatch(r -> m.has(r, b)) ? 1 : 0;
            case "rolesOf":
                named(m.users, a);
                m.inherits.keySet().stream()
                        .filter(r -> b == 1 ? m.authorised(a, r) : m.users.get(a).contains(r))
                        .forEach(found::add);
                return told(found);
            case "usersOf":
                named(m.inherits, a);
                m.users.keySet().stream()
                        .filter(u -> b == 1 ? m.authorised(u, a) : m.users.get(u).contains(a))
                        .forEach(found::add);
                return told(found);
            case "permissions":
                named(m.grants, a);
                for (int p = 0; p < 16; p++) {
                    if (b == 1 ? m.has(a, p) : m.grants.get(a).contains(p)) {
                        found.add(p);
                    }
                }
                return told(found);
            case "juniors":
                named(m.inherits, a);
                m.inherits.keySet().stream().filter(r -> m.senior(a, r)).forEach(found::add);
                return told(found);
            case "active":
                named(m.sessions, a);
                return told(m.sessions.get(a).active);
            case "sessionsOf":
                named(m.users, a);
                m.sessions.forEach((s, meeting) -> {
                    if (meeting.user == a) {
                        found.add(s);
                    }
                });
                return told(found);
            default:
                return modelThere(m, a);
        }
    }

    private static int modelThere(Model m, int what) {
        if (what == 0) {
            return told(m.users.keySet());
        }
        if (what == 1) {
            return told(m.inherits.keySet());
        }
        if (what == 2) {
            return told(m.sessions.keySet());
        }
        Set<Integer> found = new TreeSet<>();
        m.sets.forEach((k, set) -> {
            if (set.kind == what - 3) {
                found.add(k);
            }
        });
        return told(found);
    }

    private static int deskAnswer(RoleDesk x, String name, int a, int b, int c) {
        switch (name) {
            case "addUser": return x.addUser();
            case "deleteUser": return x.deleteUser(a);
            case "addRole": return x.addRole();
            case "deleteRole": return x.deleteRole(a);
            case "assign": return x.assign(a, b);
            case "deassign": return x.deassign(a, b);
            case "grant": return x.grant(a, b);
            case "revoke": return x.revoke(a, b);
            case "inherit": return x.inherit(a, b);
            case "disinherit": return x.disinherit(a, b);
            case "addSet": return x.addSet(a, b, c);
            case "deleteSet": return x.deleteSet(a);
            case "changeSet": return x.changeSet(a, b, c);
            case "open": return x.open(a, b);
            case "close": return x.close(a);
            case "activate": return x.activate(a, b);
            case "deactivate": return x.deactivate(a, b);
            case "check": return x.check(a, b) ? 1 : 0;
            case "rolesOf": return x.rolesOf(a, b == 1);
            case "usersOf": return x.usersOf(a, b == 1);
            case "permissions": return x.permissions(a, b == 1);
            case "juniors": return x.juniors(a);
            case "active": return x.active(a);
            case "sessionsOf": return x.sessionsOf(a);
            default: return x.there(a);
        }
    }

    private static final class Picker {
        final Random random;
        /** A run with a small world meets its own tracks more often. */
        final int users;
        final int roles;

        Picker(long seed) {
            random = new Random(seed);
            users = 1 + random.nextInt(6);
            roles = 2 + random.nextInt(9);
        }

        String name() {
            int sum = 0;
            for (int weight : WEIGHTS) {
                sum += weight;
            }
            int left = random.nextInt(sum);
            int i = 0;
            while (left >= WEIGHTS[i]) {
                left -= WEIGHTS[i];
                i++;
            }
            return NAMES[i];
        }

        int number(int limit) {
            int[] odd = {-1, limit, limit + 1, 10, 16, 31, 32, 33, -32, 64,
                Integer.MIN_VALUE, Integer.MAX_VALUE};
            return random.nextInt(25) == 0 ? odd[random.nextInt(odd.length)] : random.nextInt(limit);
        }

        int someRoles(int there, int wanted) {
            int told = 0;
            for (int i = 0; i < wanted; i++) {
                told |= 1 << random.nextInt(roles);
            }
            if (random.nextInt(30) == 0) {
                told |= 1 << random.nextInt(32);
            } else if (random.nextInt(10) != 0) {
                told &= there;
            }
            return told;
        }

        int[] arguments(String name, Model m) {
            int there = told(m.inherits.keySet());
            switch (name) {
                case "deleteUser": case "sessionsOf":
                    return new int[] {number(users), 0, 0};
                case "deleteRole": case "juniors":
                    return new int[] {number(roles), 0, 0};
                case "assign": case "deassign":
                    return new int[] {number(users), number(roles), 0};
                case "grant": case "revoke":
                    return new int[] {number(roles), number(random.nextBoolean() ? 4 : 16), 0};
                case "inherit": case "disinherit":
                    return new int[] {number(roles), number(roles), 0};
                case "addSet":
                    return new int[] {number(2), someRoles(there, 5), number(5)};
                case "deleteSet":
                    return new int[] {number(4), 0, 0};
                case "changeSet":
                    return new int[] {number(4), someRoles(there, 5), number(5)};
                case "open": {
                    int u = number(users);
                    int mine = m.users.containsKey(u) && random.nextInt(4) != 0
                            ? modelAnswerWithoutChange(m, "rolesOf", u, 1) : there;
                    return new int[] {u, someRoles(mine, random.nextInt(5)), 0};
                }
                case "close": case "active":
                    return new int[] {number(random.nextBoolean() ? 6 : 2), 0, 0};
                case "activate": case "deactivate":
                    return new int[] {number(random.nextBoolean() ? 6 : 2), number(roles), 0};
                case "check":
                    return new int[] {number(random.nextBoolean() ? 6 : 2), number(4), 0};
                case "rolesOf":
                    return new int[] {number(users), random.nextInt(2), 0};
                case "usersOf": case "permissions":
                    return new int[] {number(roles), random.nextInt(2), 0};
                default:
                    return new int[] {number(5), 0, 0};
            }
        }
    }

    private static final Map<String, Integer> seen = new HashMap<>();

    /** Answers null when the run is right, else what is wrong in it. */
    private static String run(long seed) {
        Picker picker = new Picker(seed);
        int users = picker.random.nextInt(picker.users + 1);
        int roles = picker.random.nextInt(3) == 0
                ? picker.random.nextInt(picker.roles + 1) : picker.roles;
        int mode = picker.random.nextInt(4);
        RoleDesk desk = new RoleDesk(users, roles, mode);
        Model model = new Model(users, roles, mode);
        List<String> told = new ArrayList<>();
        told.add("new RoleDesk(" + users + ", " + roles + ", " + mode + ")");
        for (int i = 0; i < CALLS; i++) {
            String name = picker.name();
            int[] given = picker.arguments(name, model);
            Model next = new Model(model);
            String want;
            try {
                want = String.valueOf(modelAnswer(next, name, given[0], given[1], given[2]));
                model = next;
            } catch (RuntimeException e) {
                want = "throws." + e.getClass().getSimpleName();
            }
            String got;
            try {
                got = String.valueOf(deskAnswer(desk, name, given[0], given[1], given[2]));
            } catch (RuntimeException e) {
                got = "throws." + e.getClass().getSimpleName();
            }
            told.add(name + java.util.Arrays.toString(given) + " -> " + got);
            seen.merge(name + (want.startsWith("throws") ? " " + want : " answers"), 1, Integer::sum);
            if (!got.equals(want)) {
                return "seed " + seed + ", due is " + want + " at the end of " + told;
            }
        }
        return null;
    }

    public static void main(String[] args) {
        for (long seed = 1; seed <= RUNS; seed++) {
            String wrong = run(seed);
            if (wrong != null) {
                System.out.println(wrong);
                System.exit(1);
            }
        }
        if (args.length > 0) {
            new TreeMap<>(seen).forEach((what, count) -> System.out.println(count + " " + what));
        }
        System.out.println(RUNS + " runs are as due");
    }
}
