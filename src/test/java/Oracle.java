import java.util.ArrayList;
import java.util.Arrays;
import java.util.List;

/** The document's minutes once more, minute by minute and as plainly as can be, to hold the class against. */
final class Oracle {
    static final int LAST = 999;

    int first = 20;
    int[] laws = {1, 0, 5, 0, 99, 0};
    /** Minute, bank, kind, pace, trips, stay, hold (-1: none). */
    final List<int[]> people = new ArrayList<>();

    // What a run tells.
    final int[][] at = new int[LAST + 1][6];
    final int[][] gone = new int[LAST + 1][];
    int[] over;
    int[] made;
    int[] fords;
    int[] waited;
    int[] ropeless;
    int counted;

    // How a run goes.
    private boolean[] onBridge;
    private boolean[] atEnd;
    private int[] bank;
    private int[] way;
    private int[] tripPace;
    private int[] there;
    private int[] cameOver;
    private boolean[] comesBack;
    private int planks;
    private int ropes;
    private List<List<Integer>> countedAt;

    int size() {
        return people.size();
    }

    int pace(int i) {
        int kind = people.get(i)[2];
        int pace = people.get(i)[3];
        return kind == 1 || kind == 3 ? 2 * pace : kind == 2 ? Math.max(1, pace / 2) : pace;
    }

    boolean spiting(int i) {
        return people.get(i)[2] == 3;
    }

    /** roped: null, or who has ropes always. */
    void run(boolean[] roped) {
        int n = size();
        over = new int[n];
        Arrays.fill(over, 1000);
        made = new int[n];
        fords = new int[n];
        waited = new int[n];
        ropeless = new int[n];
        counted = 0;
        onBridge = new boolean[n];
        atEnd = new boolean[n];
        bank = new int[n];
        for (int i = 0; i < n; i++) {
            bank[i] = people.get(i)[1];
        }
        way = new int[n];
        tripPace = new int[n];
        there = new int[n];
        Arrays.fill(there, -1);
        cameOver = new int[n];
        comesBack = new boolean[n];
        planks = first;
        ropes = laws[4];
        countedAt = List.of(new ArrayList<>(), new ArrayList<>());
        for (int m = 0; m <= LAST; m++) {
            minute(m, roped);
            record(m);
        }
    }

    private void minute(int m, boolean[] roped) {
        int n = size();
        if (m == 240 || m == 480 || m == 720 || m == 960) {
            planks = Math.max(1, planks - laws[3]);
        }
        for (int i = 0; i < n; i++) {
            if (onBridge[i] && !atEnd[i]) {
                way[i] += tripPace[i];
                if (way[i] >= planks) {
                    atEnd[i] = true;
                }
            }
        }
        List<Integer> off = new ArrayList<>();
        for (int i = 0; i < n; i++) {
            if (onBridge[i] && atEnd[i]) {
                int h = people.get(i)[6];
                if (h >= 0 && onBridge[h] && bank[h] == bank[i] && !atEnd[h]) {
                    waited[i]++;
                } else {
                    off.add(i);
                }
            }
        }
        int counts = countAt(m, off, 0) + countAt(m, off, 1);
        counted += counts;
        for (int i : off) {
            onBridge[i] = false;
            atEnd[i] = false;
            comeOver(i, m);
        }
        planks = Math.min(400, planks + laws[0] * counts);
        for (int i = 0; i < n; i++) {
            if (there[i] == m) {
                there[i] = -1;
                fords[i]++;
                comeOver(i, m);
            }
        }
        for (int i = 0; i < n; i++) {
            boolean starts = people.get(i)[0] == m && made[i] == 0
                    || comesBack[i] && cameOver[i] + people.get(i)[5] == m;
            if (starts) {
                start(i, m, roped);
            }
        }
    }

    private int countAt(int m, List<Integer> off, int to) {
        int others = 0;
        int spiting = 0;
        for (int i : off) {
            if (1 - bank[i] == to) {
                if (spiting(i)) {
                    spiting++;
                } else {
                    others++;
                }
            }
        }
        int counts = 0;
        if (others > 0) {
            if (laws[1] == 0) {
                counts = 1;
            } else if (laws[1] == 1) {
                counts = others;
            } else {
                boolean free = true;
                for (int ahead = 1; ahead <= laws[2]; ahead++) {
                    free &= !countedAt.get(to).contains(m - ahead);
                }
                counts = free ? 1 : 0;
            }
        }
        if (counts > 0) {
            countedAt.get(to).add(m);
        }
        return counts + spiting;
    }

    private void comeOver(int i, int m) {
        made[i]++;
        bank[i] = 1 - bank[i];
        cameOver[i] = m;
        comesBack[i] = made[i] < people.get(i)[4];
        if (made[i] == people.get(i)[4]) {
            over[i] = m;
        }
    }

    private void start(int i, int m, boolean[] roped) {
        comesBack[i] = false;
        if (laws[5] != 0 && (planks + pace(i) - 1) / pace(i) > laws[5]) {
            there[i] = m + laws[5];
            return;
        }
        boolean rope;
        if (roped != null) {
            rope = roped[i];
        } else {
            rope = ropes > 0;
            if (rope) {
                ropes--;
            }
        }
        onBridge[i] = true;
        way[i] = 0;
        tripPace[i] = rope ? pace(i) : Math.max(1, pace(i) / 2);
        if (!rope) {
            ropeless[i]++;
        }
    }

    private void record(int m) {
        Arrays.fill(at[m], 0);
        at[m][0] = planks;
        at[m][4] = ropes;
        gone[m] = new int[size()];
        for (int i = 0; i < size(); i++) {
            gone[m][i] = onBridge[i] ? way[i] : -4;
            if (onBridge[i]) {
                at[m][1 + bank[i]] |= 1 << i;
            }
            if (atEnd[i]) {
                at[m][3] |= 1 << i;
            }
            if (over[i] <= m) {
                at[m][5] |= 1 << i;
            }
        }
    }

    int sum() {
        return Arrays.stream(over).sum();
    }

    int last() {
        return Arrays.stream(over).max().orElse(0);
    }

    int sumIfHolds(int i, int other) {
        int was = people.get(i)[6];
        people.get(i)[6] = other;
        run(null);
        people.get(i)[6] = was;
        return sum();
    }

    /** The set and the sum. */
    int[] shared(int r) {
        int n = size();
        int[] best = null;
        for (int few = 0; few <= Math.min(r, n); few++) {
            for (int set = 0; set < 1 << n; set++) {
                if (Integer.bitCount(set) != few) {
                    continue;
                }
                boolean[] roped = new boolean[n];
                for (int i = 0; i < n; i++) {
                    roped[i] = (set >> i & 1) == 1;
                }
                run(roped);
                if (best == null || sum() < best[1]) {
                    best = new int[] {set, sum()};
                }
            }
        }
        return best;
    }

    /** When the last is over, the sum, then the row. */
    int[] soonest(int[] who) {
        int[][] best = new int[1][];
        rows(who, new int[who.length], 0, best);
        return best[0];
    }

    private void rows(int[] who, int[] row, int i, int[][] best) {
        if (i == who.length) {
            better(crossing(who, row, new int[who.length]), row, best);
            return;
        }
        int next = 0;
        for (int k = 0; k < i; k++) {
            next = Math.max(next, row[k] + 1);
        }
        for (int company = 0; company <= next; company++) {
            row[i] = company;
            rows(who, row, i + 1, best);
        }
    }

    int[] order(int[] who, int gap) {
        int[][] best = new int[1][];
        orders(who, gap, new ArrayList<>(), best);
        return best[0];
    }

    private void orders(int[] who, int gap, List<Integer> row, int[][] best) {
        if (row.size() == who.length) {
            int[] starts = new int[who.length];
            int[] alone = new int[who.length];
            int[] persons = new int[who.length];
            for (int i = 0; i < who.length; i++) {
                persons[i] = row.get(i);
                starts[i] = i * gap;
                alone[i] = i;
            }
            better(crossing(persons, alone, starts), persons, best);
            return;
        }
        for (int person : who) {
            if (!row.contains(person)) {
                row.add(person);
                orders(who, gap, row, best);
                row.remove(row.size() - 1);
            }
        }
    }

    private static void better(int[] overs, int[] row, int[][] best) {
        int last = Arrays.stream(overs).max().orElse(0);
        int sum = Arrays.stream(overs).sum();
        if (best[0] == null || last < best[0][0] || last == best[0][0] && sum < best[0][1]) {
            int[] found = new int[row.length + 2];
            found[0] = last;
            found[1] = sum;
            System.arraycopy(row, 0, found, 2, row.length);
            best[0] = found;
        }
    }

    /** When each is over who goes once over an empty bridge in companies. */
    private int[] crossing(int[] who, int[] company, int[] starts) {
        int n = who.length;
        int[] end = new int[n];
        int[] overs = new int[n];
        int[] far = new int[n];
        List<Integer> times = new ArrayList<>();
        int length = first;
        for (int m = 1; m <= 2000; m++) {
            for (int i = 0; i < n; i++) {
                if (m > starts[i] && end[i] == 0) {
                    far[i] += pace(who[i]);
                    end[i] = far[i] >= length ? m : 0;
                }
            }
            int companies = 0;
            int spiting = 0;
            for (int c = 0; c < n; c++) {
                boolean all = true;
                boolean some = false;
                for (int i = 0; i < n; i++) {
                    all &= company[i] != c || end[i] > 0 && overs[i] == 0;
                    some |= company[i] == c;
                }
                if (!all || !some) {
                    continue;
                }
                boolean other = false;
                for (int i = 0; i < n; i++) {
                    if (company[i] == c) {
                        overs[i] = m;
                        spiting += spiting(who[i]) ? 1 : 0;
                        other |= !spiting(who[i]);
                    }
                }
                companies += other ? 1 : 0;
            }
            int counts = companies;
            if (companies > 0 && laws[1] == 0) {
                counts = 1;
            }
            if (companies > 0 && laws[1] == 2) {
                counts = 1;
                for (int t : times) {
                    counts = t >= m - laws[2] ? 0 : counts;
                }
            }
            if (counts > 0) {
                times.add(m);
            }
            length = Math.min(400, length + laws[0] * (counts + spiting));
        }
        return overs;
    }
}
