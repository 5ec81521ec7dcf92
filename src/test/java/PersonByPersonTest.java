import java.util.ArrayList;
import java.util.HashMap;
import java.util.HashSet;
import java.util.List;
import java.util.Map;
import java.util.Random;
import java.util.Set;

/**
 * SAVED and the CUT of a few people, found by trying whatever each of them may do in each hour: no network and no
 * flow, only the document's sentences on who may be where.
 */
public final class PersonByPersonTest {
    private static final long FAR_APART = 0x9E3779B97F4A7C15L;
    private static final int RUNS = 1000;
    private static final int MOST_STATES = 60000;
    private static final int LOST = -1;
    private static final int ENDED = -2;

    private record Place(boolean town, int cell, int room, int warned) { }
    private record Road(int from, int to, int length, int capacity, int every, int cell) { }
    /** Where each person is or is coming to, and in which hour; LOST, or ENDED at the door that is asked of. */
    private record State(List<Integer> places, List<Integer> hours) { }

    private final Random random;
    private final VolcanoWatch watch = new VolcanoWatch();
    private final List<Place> places = new ArrayList<>();
    private final List<Road> roads = new ArrayList<>();
    /** Of each person the town. */
    private final List<Integer> homes = new ArrayList<>();
    private int start;
    private int begin;
    private int end;
    private int doorPlace = VolcanoWatch.NONE;
    private int doorHour = VolcanoWatch.NONE;

    private PersonByPersonTest(long seed) {
        random = new Random(seed * FAR_APART);
    }

    public static void main(String[] args) {
        long from = args.length > 0 ? Long.parseLong(args[0]) : 1;
        long to = args.length > 1 ? Long.parseLong(args[1]) : RUNS;
        Map<String, Integer> seen = new HashMap<>();
        for (long seed = from; seed <= to; seed++) {
            PersonByPersonTest test = new PersonByPersonTest(seed);
            test.settle();
            test.compare("run " + seed, seen);
        }
        for (String answer : List.of("saved some", "lost some", "cut 0", "cut 1")) {
            Check.due("runs with " + answer, seen.getOrDefault(answer, 0) > 0, true);
        }
        Check.end("PersonByPersonTest");
    }

    // ---- a little land with a few people

    private void settle() {
        int width = 2 + random.nextInt(2);
        int cells = 2 * width;
        watch.land(width, 2);
        for (int i = 0; i < cells; i++) {
            watch.ground(i, random.nextInt(5), 0);
        }
        start = random.nextInt(18);
        begin = Math.max(0, start - 12);
        end = start + 12;
        watch.world(start, random.nextInt(cells), 1 + random.nextInt(9), 1 + random.nextInt(8), 1);
        watch.post(0);
        watch.hours(random.nextInt(1 + random.nextInt(end + 3)));
        watch.read(0, watch.count(0), 1, false);
        Check.rules(watch, "level 2 count(tremor,1)>0;");
        int towns = 1 + random.nextInt(2);
        for (int i = 0; i < towns; i++) {
            settleTown(random.nextInt(cells), 1 + random.nextInt(2));
        }
        for (int i = random.nextInt(2); i < 2; i++) {
            int room = random.nextInt(random.nextBoolean() ? 2 : 4);
            watch.shelter(room);
            places.add(new Place(false, VolcanoWatch.NONE, room, VolcanoWatch.NONE));
        }
        for (int i = 0; i < 5; i++) {
            joinPlaces(cells);
        }
    }

    private void settleTown(int cell, int people) {
        int threshold = random.nextInt(8) == 0 ? 3 : 2;
        int number = watch.town(cell, people, threshold, random.nextInt(4));
        for (int i = 0; i < people; i++) {
            homes.add(number);
        }
        places.add(new Place(true, cell, 0, watch.warned(number)));
    }

    private void joinPlaces(int cells) {
        Road road = new Road(random.nextInt(places.size()), random.nextInt(places.size()), 1 + random.nextInt(5),
            1 + random.nextInt(2), 1 + random.nextInt(1 + random.nextInt(6)), random.nextBoolean() ? -1 : random.nextInt(cells));
        int number = watch.road(road.from, road.to, road.length, road.capacity, road.every, road.cell);
        if (number != VolcanoWatch.NONE) {
            roads.add(road);
        }
    }

    // ---- what may be

    private boolean shut(int cell, int hour) {
        return cell != VolcanoWatch.NONE && hour >= start + watch.reached(0, cell);
    }

    private boolean mayMove(int person, int hour) {
        int warned = places.get(homes.get(person)).warned;
        return warned != VolcanoWatch.NONE && warned <= end && hour >= warned;
    }

    private boolean mayLeave(Road road, int hour) {
        if (hour % road.every != 0 || hour + road.length > end) {
            return false;
        }
        for (int h = hour; h <= hour + road.length; h++) {
            if (shut(road.cell, h)) {
                return false;
            }
        }
        return true;
    }

    /** The most that are SAVED, one ENDED at the door counted with them; -1: too many ways. */
    private int most() {
        Set<State> now = new HashSet<>();
        List<Integer> hours = new ArrayList<>();
        for (int i = 0; i < homes.size(); i++) {
            hours.add(begin);
        }
        now.add(new State(List.copyOf(homes), hours));
        for (int hour = begin; hour <= end; hour++) {
            Set<State> here = new HashSet<>();
            for (State state : now) {
                arrive(state, hour, here);
            }
            if (hour == end) {
                now = here;
                break;
            }
            Set<State> next = new HashSet<>();
            for (State state : here) {
                move(state, hour, 0, new int[roads.size()], next);
            }
            if (next.size() > MOST_STATES) {
                return -1;
            }
            now = next;
        }
        int most = 0;
        for (State state : now) {
            most = Math.max(most, saved(state));
        }
        return most;
    }

    /** Whoever is in a TOWN that is SHUT is LOST; one who is at the door may end there, if none has. */
    private void arrive(State state, int hour, Set<State> into) {
        List<Integer> at = new ArrayList<>(state.places);
        for (int i = 0; i < at.size(); i++) {
            boolean here = at.get(i) >= 0 && state.hours.get(i) <= hour;
            if (here && shut(places.get(at.get(i)).cell, hour)) {
                at.set(i, LOST);
            }
        }
        into.add(new State(at, state.hours));
        for (int i = 0; i < at.size(); i++) {
            boolean atDoor = at.get(i) == doorPlace && state.hours.get(i) <= hour && hour == doorHour;
            if (atDoor && doorPlace >= 0 && mayMove(i, hour)) {
                List<Integer> ended = new ArrayList<>(at);
                ended.set(i, ENDED);
                into.add(new State(ended, state.hours));
            }
        }
    }

    /** All that the people from this one on may do. */
    private void move(State state, int hour, int person, int[] left, Set<State> into) {
        if (person == homes.size()) {
            into.add(state);
            return;
        }
        move(state, hour, person + 1, left, into);
        int place = state.places.get(person);
        if (place < 0 || state.hours.get(person) > hour || !mayMove(person, hour)) {
            return;
        }
        for (int i = 0; i < roads.size(); i++) {
            Road road = roads.get(i);
            if (road.from == place && left[i] < road.capacity && mayLeave(road, hour)) {
                List<Integer> at = new ArrayList<>(state.places);
                List<Integer> hours = new ArrayList<>(state.hours);
                at.set(person, road.to);
                hours.set(person, hour + road.length);
                left[i]++;
                move(new State(at, hours), hour, person + 1, left, into);
                left[i]--;
            }
        }
    }

    private int saved(State state) {
        int sum = 0;
        for (int p = 0; p < places.size(); p++) {
            int here = 0;
            for (int at : state.places) {
                here += at == p ? 1 : 0;
            }
            sum += places.get(p).town ? here : Math.min(here, places.get(p).room);
        }
        return sum + (state.places.contains(ENDED) ? 1 : 0);
    }

    // ---- the comparison

    private void compare(String run, Map<String, Integer> seen) {
        int most = most();
        if (most < 0) {
            return;
        }
        Check.due(run + " saved", watch.ledOut(0, 0), most);
        Check.due(run + " lost", watch.ledOut(0, 1), homes.size() - most);
        seen.merge(most > 0 ? "saved some" : "saved none", 1, Integer::sum);
        seen.merge(most < homes.size() ? "lost some" : "lost none", 1, Integer::sum);
        for (int i = 0; i < 12; i++) {
            doorPlace = random.nextInt(places.size());
            doorHour = begin + random.nextInt(end - begin + 1);
            int withDoor = most();
            if (withDoor >= 0) {
                int due = withDoor > most ? 1 : 0;
                Check.due(run + " cut " + doorPlace + " " + doorHour, watch.cut(0, doorPlace, doorHour), due);
                seen.merge("cut " + due, 1, Integer::sum);
            }
        }
        doorPlace = VolcanoWatch.NONE;
    }
}
