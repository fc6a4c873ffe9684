import java.util.NoSuchElementException;

/**
 * Who may do what: users, roles, sessions and sets of roles that keep some roles apart.
 *
 * <p>Every set of numbers is held as an int with bit i standing for number i. What is not there
 * has an empty row (no roles, no permissions), so that a number given out anew starts clean and
 * loops over all numbers need not ask which of them are there.
 */
public final class RoleDesk {
    private static final int USERS = 6;
    private static final int ROLES = 10;
    private static final int SESSIONS = 6;
    private static final int SETS = 4;
    private static final int PERMISSIONS = 16;
    private static final int ALL_PERMISSIONS = (1 << PERMISSIONS) - 1;

    private static final int STATIC = 0;
    private static final int DYNAMIC = 1;
    private static final int LEAST_SET_NUMBER = 2;

    private final boolean limited;

    private int usersThere;
    private int rolesThere;
    private int sessionsThere;
    private int setsThere;

    private final int[] assigned = new int[USERS];
    private final int[] granted = new int[ROLES];
    private final int[] inherited = new int[ROLES];
    private final int[] sessionUser = new int[SESSIONS];
    private final int[] activeRoles = new int[SESSIONS];
    private final int[] setKind = new int[SETS];
    private final int[] setRoles = new int[SETS];
    private final int[] setNumber = new int[SETS];

    public RoleDesk(int users, int roles, int mode) {
        usersThere = (1 << Math.max(0, Math.min(users, USERS))) - 1;
        rolesThere = (1 << Math.max(0, Math.min(roles, ROLES))) - 1;
        limited = mode == 1;
    }

    public int addUser() throws IllegalStateException {
        int u = leastFree(usersThere, USERS);
        refuseIf(u >= USERS);
        usersThere |= bit(u);
        return u;
    }

    public int deleteUser(int u) throws NoSuchElementException {
        requireThere(usersThere, u);
        int ended = sessionsOfUser(u);
        for (int s = 0; s < SESSIONS; s++) {
            if (holds(ended, s)) {
                endSession(s);
            }
        }
        usersThere &= ~bit(u);
        assigned[u] = 0;
        return Integer.bitCount(ended);
    }

    public int addRole() throws IllegalStateException {
        int r = leastFree(rolesThere, ROLES);
        refuseIf(r >= ROLES);
        rolesThere |= bit(r);
        return r;
    }

    public int deleteRole(int r) throws NoSuchElementException {
        requireThere(rolesThere, r);
        rolesThere &= ~bit(r);
        for (int u = 0; u < USERS; u++) {
            assigned[u] &= ~bit(r);
        }
        for (int senior = 0; senior < ROLES; senior++) {
            inherited[senior] &= ~bit(r);
        }
        inherited[r] = 0;
        granted[r] = 0;
        dropUnauthorised();
        return takeOutOfSets(r);
    }

    public int assign(int u, int r) throws NoSuchElementException, IllegalStateException {
        requireThere(usersThere, u);
        requireThere(rolesThere, r);
        refuseIf(holds(assigned[u], r));
        refuseIf(breaksSomeSet(STATIC, withJuniors(assigned[u] | bit(r))));
        assigned[u] |= bit(r);
        return Integer.bitCount(assigned[u]);
    }

    public int deassign(int u, int r) throws NoSuchElementException, IllegalStateException {
        requireThere(usersThere, u);
        requireThere(rolesThere, r);
        refuseIf(!holds(assigned[u], r));
        assigned[u] &= ~bit(r);
        dropUnauthorised();
        return Integer.bitCount(assigned[u]);
    }

    public int grant(int r, int p) throws NoSuchElementException, IllegalStateException {
        requireThere(rolesThere, r);
        requireThere(ALL_PERMISSIONS, p);
        refuseIf(holds(granted[r], p));
        granted[r] |= bit(p);
        return Integer.bitCount(granted[r]);
    }

    public int revoke(int r, int p) throws NoSuchElementException, IllegalStateException {
        requireThere(rolesThere, r);
        requireThere(ALL_PERMISSIONS, p);
        refuseIf(!holds(granted[r], p));
        granted[r] &= ~bit(p);
        return Integer.bitCount(granted[r]);
    }

    public int inherit(int r, int q) throws NoSuchElementException, IllegalStateException {
        requireThere(rolesThere, r);
        requireThere(rolesThere, q);
        refuseIf(holds(inherited[r], q));
        refuseIf(holds(withJuniors(bit(q)), r));
        refuseIf(limited && inherited[r] != 0);
        refuseIf(inheritingBreaksSomeSet(r, q));
        inherited[r] |= bit(q);
        return Integer.bitCount(inherited[r]);
    }

    public int disinherit(int r, int q) throws NoSuchElementException, IllegalStateException {
        requireThere(rolesThere, r);
        requireThere(rolesThere, q);
        refuseIf(!holds(inherited[r], q));
        inherited[r] &= ~bit(q);
        dropUnauthorised();
        return Integer.bitCount(inherited[r]);
    }

    public int addSet(int kind, int roles, int n)
            throws NoSuchElementException, IllegalArgumentException, IllegalStateException {
        requireAllThere(rolesThere, roles);
        requireInBounds(kind, STATIC, DYNAMIC);
        requireInBounds(n, LEAST_SET_NUMBER, Integer.bitCount(roles));
        int k = leastFree(setsThere, SETS);
        refuseIf(k >= SETS);
        refuseIf(wouldBeBroken(kind, roles, n));
        setsThere |= bit(k);
        setKind[k] = kind;
        setRoles[k] = roles;
        setNumber[k] = n;
        return k;
    }

    public int deleteSet(int k) throws NoSuchElementException {
        requireThere(setsThere, k);
        setsThere &= ~bit(k);
        return Integer.bitCount(setsThere);
    }

    public int changeSet(int k, int roles, int n)
            throws NoSuchElementException, IllegalArgumentException, IllegalStateException {
        requireThere(setsThere, k);
        requireAllThere(rolesThere, roles);
        requireInBounds(n, LEAST_SET_NUMBER, Integer.bitCount(roles));
        refuseIf(wouldBeBroken(setKind[k], roles, n));
        setRoles[k] = roles;
        setNumber[k] = n;
        return Integer.bitCount(roles);
    }

    public int open(int u, int roles) throws NoSuchElementException, IllegalStateException {
        requireThere(usersThere, u);
        requireAllThere(rolesThere, roles);
        refuseIf((roles & ~withJuniors(assigned[u])) != 0);
        int s = leastFree(sessionsThere, SESSIONS);
        refuseIf(s >= SESSIONS);
        refuseIf(breaksSomeSet(DYNAMIC, roles));
        sessionsThere |= bit(s);
        sessionUser[s] = u;
        activeRoles[s] = roles;
        return s;
    }

    public int close(int s) throws NoSuchElementException {
        requireThere(sessionsThere, s);
        endSession(s);
        return Integer.bitCount(sessionsThere);
    }

    public int activate(int s, int r) throws NoSuchElementException, IllegalStateException {
        requireThere(sessionsThere, s);
        requireThere(rolesThere, r);
        refuseIf(holds(activeRoles[s], r));
        refuseIf(!holds(withJuniors(assigned[sessionUser[s]]), r));
        refuseIf(breaksSomeSet(DYNAMIC, activeRoles[s] | bit(r)));
        activeRoles[s] |= bit(r);
        return Integer.bitCount(activeRoles[s]);
    }

    public int deactivate(int s, int r) throws NoSuchElementException, IllegalStateException {
        requireThere(sessionsThere, s);
        requireThere(rolesThere, r);
        refuseIf(!holds(activeRoles[s], r));
        activeRoles[s] &= ~bit(r);
        return Integer.bitCount(activeRoles[s]);
    }

    public boolean check(int s, int p) throws NoSuchElementException {
        requireThere(sessionsThere, s);
        requireThere(ALL_PERMISSIONS, p);
        return holds(permissionsHad(activeRoles[s]), p);
    }

    public int rolesOf(int u, boolean all) throws NoSuchElementException {
        requireThere(usersThere, u);
        return all ? withJuniors(assigned[u]) : assigned[u];
    }

    public int usersOf(int r, boolean all) throws NoSuchElementException {
        requireThere(rolesThere, r);
        int found = 0;
        for (int u = 0; u < USERS; u++) {
            int roles = all ? withJuniors(assigned[u]) : assigned[u];
            if (holds(roles, r)) {
                found |= bit(u);
            }
        }
        return found;
    }

    public int permissions(int r, boolean all) throws NoSuchElementException {
        requireThere(rolesThere, r);
        return all ? permissionsHad(bit(r)) : granted[r];
    }

    public int juniors(int r) throws NoSuchElementException {
        requireThere(rolesThere, r);
        return withJuniors(bit(r));
    }

    public int active(int s) throws NoSuchElementException {
        requireThere(sessionsThere, s);
        return activeRoles[s];
    }

    public int sessionsOf(int u) throws NoSuchElementException {
        requireThere(usersThere, u);
        return sessionsOfUser(u);
    }

    public int there(int what) {
        switch (what) {
            case 0:
                return usersThere;
            case 1:
                return rolesThere;
            case 2:
                return sessionsThere;
            case 3:
                return setsOfKind(STATIC);
            case 4:
                return setsOfKind(DYNAMIC);
            default:
                return 0;
        }
    }

    private static int bit(int number) {
        return 1 << number;
    }

    /** The range is looked at first because a shift takes its distance modulo 32. */
    private static boolean holds(int set, int number) {
        return number >= 0 && number < PERMISSIONS && (set & bit(number)) != 0;
    }

    /** Answers the limit itself when no number below it is free. */
    private static int leastFree(int taken, int limit) {
        int number = 0;
        while (number < limit && holds(taken, number)) {
            number++;
        }
        return number;
    }

    private static void requireThere(int there, int number) throws NoSuchElementException {
        if (!holds(there, number)) {
            throw new NoSuchElementException();
        }
    }

    private static void requireAllThere(int there, int numbers) throws NoSuchElementException {
        if ((numbers & ~there) != 0) {
            throw new NoSuchElementException();
        }
    }

    private static void requireInBounds(int number, int least, int most)
            throws IllegalArgumentException {
        if (number < least || number > most) {
            throw new IllegalArgumentException();
        }
    }

    private static void refuseIf(boolean forbidden) throws IllegalStateException {
        if (forbidden) {
            throw new IllegalStateException();
        }
    }

    /** A way down without a circle has fewer steps than there are roles, so ROLES rounds suffice. */
    private int withJuniors(int roles) {
        int reached = roles;
        for (int round = 0; round < ROLES; round++) {
            int before = reached;
            for (int r = 0; r < ROLES; r++) {
                if (holds(reached, r)) {
                    reached |= inherited[r];
                }
            }
            if (reached == before) {
                break;
            }
        }
        return reached;
    }

    private int permissionsHad(int roles) {
        int reached = withJuniors(roles);
        int had = 0;
        for (int r = 0; r < ROLES; r++) {
            if (holds(reached, r)) {
                had |= granted[r];
            }
        }
        return had;
    }

    private int sessionsOfUser(int u) {
        int found = 0;
        for (int s = 0; s < SESSIONS; s++) {
            if (holds(sessionsThere, s) && sessionUser[s] == u) {
                found |= bit(s);
            }
        }
        return found;
    }

    private int setsOfKind(int kind) {
        int found = 0;
        for (int k = 0; k < SETS; k++) {
            if (holds(setsThere, k) && setKind[k] == kind) {
                found |= bit(k);
            }
        }
        return found;
    }

    private void endSession(int s) {
        sessionsThere &= ~bit(s);
        activeRoles[s] = 0;
    }

    private void dropUnauthorised() {
        for (int s = 0; s < SESSIONS; s++) {
            if (activeRoles[s] != 0) {
                activeRoles[s] &= withJuniors(assigned[sessionUser[s]]);
            }
        }
    }

    /** Answers how many sets go because too few roles are left in them. */
    private int takeOutOfSets(int r) {
        int gone = 0;
        for (int k = 0; k < SETS; k++) {
            setRoles[k] &= ~bit(r);
            if (holds(setsThere, k) && Integer.bitCount(setRoles[k]) < setNumber[k]) {
                setsThere &= ~bit(k);
                gone++;
            }
        }
        return gone;
    }

    private boolean breaksSomeSet(int kind, int roles) {
        int sets = setsOfKind(kind);
        for (int k = 0; k < SETS; k++) {
            if (holds(sets, k) && Integer.bitCount(roles & setRoles[k]) >= setNumber[k]) {
                return true;
            }
        }
        return false;
    }

    /** Only who is authorised for r gains roles by it: those to which q is senior. */
    private boolean inheritingBreaksSomeSet(int r, int q) {
        int gained = withJuniors(bit(q));
        for (int u = 0; u < USERS; u++) {
            int authorised = withJuniors(assigned[u]);
            if (holds(authorised, r) && breaksSomeSet(STATIC, authorised | gained)) {
                return true;
            }
        }
        return false;
    }

    private boolean wouldBeBroken(int kind, int roles, int n) {
        return kind == STATIC ? someUserHasMany(roles, n) : someSessionHasMany(roles, n);
    }

    private boolean someUserHasMany(int roles, int n) {
        for (int u = 0; u < USERS; u++) {
            if (Integer.bitCount(withJuniors(assigned[u]) & roles) >= n) {
                return true;
            }
        }
        return false;
    }

    private boolean someSessionHasMany(int roles, int n) {
        for (int s = 0; s < SESSIONS; s++) {
            if (Integer.bitCount(activeRoles[s] & roles) >= n) {
                return true;
            }
        }
        return false;
    }
}
